theorem d_Model_layStates_0 : decode prog_14_method_31_code 0 = .ok (.sipush 241, 3) := by decide +kernel
theorem d_Model_layStates_3 : decode prog_14_method_31_code 3 = .ok (.iload_n 1, 1) := by decide +kernel
theorem d_Model_layStates_4 : decode prog_14_method_31_code 4 = .ok (.imul, 1) := by decide +kernel
theorem d_Model_layStates_5 : decode prog_14_method_31_code 5 = .ok (.istore 4, 2) := by decide +kernel
theorem d_Model_layStates_7 : decode prog_14_method_31_code 7 = .ok (.iconst 0, 1) := by decide +kernel
theorem d_Model_layStates_8 : decode prog_14_method_31_code 8 = .ok (.istore 5, 2) := by decide +kernel
theorem d_Model_layStates_10 : decode prog_14_method_31_code 10 = .ok (.iload 5, 2) := by decide +kernel
theorem d_Model_layStates_12 : decode prog_14_method_31_code 12 = .ok (.aload_n 0, 1) := by decide +kernel
theorem d_Model_layStates_13 : decode prog_14_method_31_code 13 = .ok (.invokevirtual 134, 3) := by decide +kernel
theorem d_Model_layStates_16 : decode prog_14_method_31_code 16 = .ok (.if_icmp .ge 60, 3) := by decide +kernel
theorem d_Model_layStates_19 : decode prog_14_method_31_code 19 = .ok (.iconst 0, 1) := by decide +kernel
theorem d_Model_layStates_20 : decode prog_14_method_31_code 20 = .ok (.istore 6, 2) := by decide +kernel
theorem d_Model_layStates_22 : decode prog_14_method_31_code 22 = .ok (.iload 6, 2) := by decide +kernel
theorem d_Model_layStates_24 : decode prog_14_method_31_code 24 = .ok (.aload_n 0, 1) := by decide +kernel
theorem d_Model_layStates_25 : decode prog_14_method_31_code 25 = .ok (.iload 5, 2) := by decide +kernel
theorem d_Model_layStates_27 : decode prog_14_method_31_code 27 = .ok (.invokevirtual 203, 3) := by decide +kernel
theorem d_Model_layStates_30 : decode prog_14_method_31_code 30 = .ok (.if_icmp .gt 40, 3) := by decide +kernel
theorem d_Model_layStates_33 : decode prog_14_method_31_code 33 = .ok (.iload 5, 2) := by decide +kernel
theorem d_Model_layStates_35 : decode prog_14_method_31_code 35 = .ok (.iload_n 3, 1) := by decide +kernel
theorem d_Model_layStates_36 : decode prog_14_method_31_code 36 = .ok (.if_icmp .eq 34, 3) := by decide +kernel
theorem d_Model_layStates_39 : decode prog_14_method_31_code 39 = .ok (.aload_n 0, 1) := by decide +kernel
theorem d_Model_layStates_40 : decode prog_14_method_31_code 40 = .ok (.iload 4, 2) := by decide +kernel
theorem d_Model_layStates_42 : decode prog_14_method_31_code 42 = .ok (.aload_n 0, 1) := by decide +kernel
theorem d_Model_layStates_43 : decode prog_14_method_31_code 43 = .ok (.iload_n 1, 1) := by decide +kernel
theorem d_Model_layStates_44 : decode prog_14_method_31_code 44 = .ok (.iload 5, 2) := by decide +kernel
theorem d_Model_layStates_46 : decode prog_14_method_31_code 46 = .ok (.iload 6, 2) := by decide +kernel
theorem d_Model_layStates_48 : decode prog_14_method_31_code 48 = .ok (.invokevirtual 211, 3) := by decide +kernel
theorem d_Model_layStates_51 : decode prog_14_method_31_code 51 = .ok (.iadd, 1) := by decide +kernel
theorem d_Model_layStates_52 : decode prog_14_method_31_code 52 = .ok (.aload_n 0, 1) := by decide +kernel
theorem d_Model_layStates_53 : decode prog_14_method_31_code 53 = .ok (.iload 5, 2) := by decide +kernel
theorem d_Model_layStates_55 : decode prog_14_method_31_code 55 = .ok (.iload 6, 2) := by decide +kernel
theorem d_Model_layStates_57 : decode prog_14_method_31_code 57 = .ok (.iload_n 2, 1) := by decide +kernel
theorem d_Model_layStates_58 : decode prog_14_method_31_code 58 = .ok (.invokevirtual 214, 3) := by decide +kernel
theorem d_Model_layStates_61 : decode prog_14_method_31_code 61 = .ok (.invokevirtual 217, 3) := by decide +kernel
theorem d_Model_layStates_64 : decode prog_14_method_31_code 64 = .ok (.iinc 6 1, 3) := by decide +kernel
theorem d_Model_layStates_67 : decode prog_14_method_31_code 67 = .ok (.goto (-45), 3) := by decide +kernel
theorem d_Model_layStates_70 : decode prog_14_method_31_code 70 = .ok (.iinc 5 1, 3) := by decide +kernel
theorem d_Model_layStates_73 : decode prog_14_method_31_code 73 = .ok (.goto (-63), 3) := by decide +kernel
theorem d_Model_layStates_76 : decode prog_14_method_31_code 76 = .ok (.aload_n 0, 1) := by decide +kernel
theorem d_Model_layStates_77 : decode prog_14_method_31_code 77 = .ok (.getfield 58, 3) := by decide +kernel
theorem d_Model_layStates_80 : decode prog_14_method_31_code 80 = .ok (.iload_n 1, 1) := by decide +kernel
theorem d_Model_layStates_81 : decode prog_14_method_31_code 81 = .ok (.iconst 0, 1) := by decide +kernel
theorem d_Model_layStates_82 : decode prog_14_method_31_code 82 = .ok (.iastore, 1) := by decide +kernel
theorem d_Model_layStates_83 : decode prog_14_method_31_code 83 = .ok (.aload_n 0, 1) := by decide +kernel
theorem d_Model_layStates_84 : decode prog_14_method_31_code 84 = .ok (.invokevirtual 134, 3) := by decide +kernel
theorem d_Model_layStates_87 : decode prog_14_method_31_code 87 = .ok (.iload_n 3, 1) := by decide +kernel
theorem d_Model_layStates_88 : decode prog_14_method_31_code 88 = .ok (.iconst (-1), 1) := by decide +kernel
theorem d_Model_layStates_89 : decode prog_14_method_31_code 89 = .ok (.if_icmp .ne 7, 3) := by decide +kernel
theorem d_Model_layStates_92 : decode prog_14_method_31_code 92 = .ok (.iconst 0, 1) := by decide +kernel
theorem d_Model_layStates_93 : decode prog_14_method_31_code 93 = .ok (.goto 4, 3) := by decide +kernel
theorem d_Model_layStates_96 : decode prog_14_method_31_code 96 = .ok (.iconst 1, 1) := by decide +kernel
theorem d_Model_layStates_97 : decode prog_14_method_31_code 97 = .ok (.if_icmp .le 7, 3) := by decide +kernel
theorem d_Model_layStates_100 : decode prog_14_method_31_code 100 = .ok (.iconst 1, 1) := by decide +kernel
theorem d_Model_layStates_101 : decode prog_14_method_31_code 101 = .ok (.goto 4, 3) := by decide +kernel
theorem d_Model_layStates_104 : decode prog_14_method_31_code 104 = .ok (.iconst 0, 1) := by decide +kernel
theorem d_Model_layStates_105 : decode prog_14_method_31_code 105 = .ok (.istore 5, 2) := by decide +kernel
theorem d_Model_layStates_107 : decode prog_14_method_31_code 107 = .ok (.iconst 0, 1) := by decide +kernel
theorem d_Model_layStates_108 : decode prog_14_method_31_code 108 = .ok (.istore 6, 2) := by decide +kernel
theorem d_Model_layStates_110 : decode prog_14_method_31_code 110 = .ok (.iload 6, 2) := by decide +kernel
theorem d_Model_layStates_112 : decode prog_14_method_31_code 112 = .ok (.aload_n 0, 1) := by decide +kernel
theorem d_Model_layStates_113 : decode prog_14_method_31_code 113 = .ok (.getfield 40, 3) := by decide +kernel
theorem d_Model_layStates_116 : decode prog_14_method_31_code 116 = .ok (.iload_n 1, 1) := by decide +kernel
theorem d_Model_layStates_117 : decode prog_14_method_31_code 117 = .ok (.iaload, 1) := by decide +kernel
theorem d_Model_layStates_118 : decode prog_14_method_31_code 118 = .ok (.if_icmp .ge 140, 3) := by decide +kernel
theorem d_Model_layStates_121 : decode prog_14_method_31_code 121 = .ok (.iload 5, 2) := by decide +kernel
theorem d_Model_layStates_123 : decode prog_14_method_31_code 123 = .ok (.ifCond .eq 135, 3) := by decide +kernel
theorem d_Model_layStates_126 : decode prog_14_method_31_code 126 = .ok (.iconst 0, 1) := by decide +kernel
theorem d_Model_layStates_127 : decode prog_14_method_31_code 127 = .ok (.istore 7, 2) := by decide +kernel
theorem d_Model_layStates_129 : decode prog_14_method_31_code 129 = .ok (.iload 7, 2) := by decide +kernel
theorem d_Model_layStates_131 : decode prog_14_method_31_code 131 = .ok (.aload_n 0, 1) := by decide +kernel
theorem d_Model_layStates_132 : decode prog_14_method_31_code 132 = .ok (.getfield 58, 3) := by decide +kernel
theorem d_Model_layStates_135 : decode prog_14_method_31_code 135 = .ok (.iload_n 1, 1) := by decide +kernel
theorem d_Model_layStates_136 : decode prog_14_method_31_code 136 = .ok (.iaload, 1) := by decide +kernel
theorem d_Model_layStates_137 : decode prog_14_method_31_code 137 = .ok (.if_icmp .ge 34, 3) := by decide +kernel
theorem d_Model_layStates_140 : decode prog_14_method_31_code 140 = .ok (.aload_n 0, 1) := by decide +kernel
theorem d_Model_layStates_141 : decode prog_14_method_31_code 141 = .ok (.iload 4, 2) := by decide +kernel
theorem d_Model_layStates_143 : decode prog_14_method_31_code 143 = .ok (.aload_n 0, 1) := by decide +kernel
theorem d_Model_layStates_144 : decode prog_14_method_31_code 144 = .ok (.getfield 61, 3) := by decide +kernel
theorem d_Model_layStates_147 : decode prog_14_method_31_code 147 = .ok (.iload 4, 2) := by decide +kernel
theorem d_Model_layStates_149 : decode prog_14_method_31_code 149 = .ok (.iload 7, 2) := by decide +kernel
theorem d_Model_layStates_151 : decode prog_14_method_31_code 151 = .ok (.iadd, 1) := by decide +kernel
theorem d_Model_layStates_152 : decode prog_14_method_31_code 152 = .ok (.iaload, 1) := by decide +kernel
theorem d_Model_layStates_153 : decode prog_14_method_31_code 153 = .ok (.iadd, 1) := by decide +kernel
theorem d_Model_layStates_154 : decode prog_14_method_31_code 154 = .ok (.iload 4, 2) := by decide +kernel
theorem d_Model_layStates_156 : decode prog_14_method_31_code 156 = .ok (.iload 6, 2) := by decide +kernel
theorem d_Model_layStates_158 : decode prog_14_method_31_code 158 = .ok (.iadd, 1) := by decide +kernel
theorem d_Model_layStates_159 : decode prog_14_method_31_code 159 = .ok (.invokevirtual 221, 3) := by decide +kernel
theorem d_Model_layStates_162 : decode prog_14_method_31_code 162 = .ok (.ifCond .ne 9, 3) := by decide +kernel
theorem d_Model_layStates_165 : decode prog_14_method_31_code 165 = .ok (.iinc 7 1, 3) := by decide +kernel
theorem d_Model_layStates_168 : decode prog_14_method_31_code 168 = .ok (.goto (-39), 3) := by decide +kernel
theorem d_Model_layStates_171 : decode prog_14_method_31_code 171 = .ok (.iload 7, 2) := by decide +kernel
theorem d_Model_layStates_173 : decode prog_14_method_31_code 173 = .ok (.aload_n 0, 1) := by decide +kernel
theorem d_Model_layStates_174 : decode prog_14_method_31_code 174 = .ok (.getfield 58, 3) := by decide +kernel
theorem d_Model_layStates_177 : decode prog_14_method_31_code 177 = .ok (.iload_n 1, 1) := by decide +kernel
theorem d_Model_layStates_178 : decode prog_14_method_31_code 178 = .ok (.iaload, 1) := by decide +kernel
theorem d_Model_layStates_179 : decode prog_14_method_31_code 179 = .ok (.if_icmp .ne 47, 3) := by decide +kernel
theorem d_Model_layStates_182 : decode prog_14_method_31_code 182 = .ok (.aload_n 0, 1) := by decide +kernel
theorem d_Model_layStates_183 : decode prog_14_method_31_code 183 = .ok (.getfield 61, 3) := by decide +kernel
theorem d_Model_layStates_186 : decode prog_14_method_31_code 186 = .ok (.iload 4, 2) := by decide +kernel
theorem d_Model_layStates_188 : decode prog_14_method_31_code 188 = .ok (.iload 7, 2) := by decide +kernel
theorem d_Model_layStates_190 : decode prog_14_method_31_code 190 = .ok (.iadd, 1) := by decide +kernel
theorem d_Model_layStates_191 : decode prog_14_method_31_code 191 = .ok (.iload 6, 2) := by decide +kernel
theorem d_Model_layStates_193 : decode prog_14_method_31_code 193 = .ok (.iastore, 1) := by decide +kernel
theorem d_Model_layStates_194 : decode prog_14_method_31_code 194 = .ok (.aload_n 0, 1) := by decide +kernel
theorem d_Model_layStates_195 : decode prog_14_method_31_code 195 = .ok (.getfield 64, 3) := by decide +kernel
theorem d_Model_layStates_198 : decode prog_14_method_31_code 198 = .ok (.iload 4, 2) := by decide +kernel
theorem d_Model_layStates_200 : decode prog_14_method_31_code 200 = .ok (.iload 7, 2) := by decide +kernel
theorem d_Model_layStates_202 : decode prog_14_method_31_code 202 = .ok (.iadd, 1) := by decide +kernel
theorem d_Model_layStates_203 : decode prog_14_method_31_code 203 = .ok (.iconst 0, 1) := by decide +kernel
theorem d_Model_layStates_204 : decode prog_14_method_31_code 204 = .ok (.iastore, 1) := by decide +kernel
theorem d_Model_layStates_205 : decode prog_14_method_31_code 205 = .ok (.aload_n 0, 1) := by decide +kernel
theorem d_Model_layStates_206 : decode prog_14_method_31_code 206 = .ok (.getfield 67, 3) := by decide +kernel
theorem d_Model_layStates_209 : decode prog_14_method_31_code 209 = .ok (.iload 4, 2) := by decide +kernel
theorem d_Model_layStates_211 : decode prog_14_method_31_code 211 = .ok (.iload 7, 2) := by decide +kernel
theorem d_Model_layStates_213 : decode prog_14_method_31_code 213 = .ok (.iadd, 1) := by decide +kernel
theorem d_Model_layStates_214 : decode prog_14_method_31_code 214 = .ok (.iconst 0, 1) := by decide +kernel
theorem d_Model_layStates_215 : decode prog_14_method_31_code 215 = .ok (.iastore, 1) := by decide +kernel
theorem d_Model_layStates_216 : decode prog_14_method_31_code 216 = .ok (.aload_n 0, 1) := by decide +kernel
theorem d_Model_layStates_217 : decode prog_14_method_31_code 217 = .ok (.getfield 58, 3) := by decide +kernel
theorem d_Model_layStates_220 : decode prog_14_method_31_code 220 = .ok (.iload_n 1, 1) := by decide +kernel
theorem d_Model_layStates_221 : decode prog_14_method_31_code 221 = .ok (.dup2, 1) := by decide +kernel
theorem d_Model_layStates_222 : decode prog_14_method_31_code 222 = .ok (.iaload, 1) := by decide +kernel
theorem d_Model_layStates_223 : decode prog_14_method_31_code 223 = .ok (.iconst 1, 1) := by decide +kernel
theorem d_Model_layStates_224 : decode prog_14_method_31_code 224 = .ok (.iadd, 1) := by decide +kernel
theorem d_Model_layStates_225 : decode prog_14_method_31_code 225 = .ok (.iastore, 1) := by decide +kernel
theorem d_Model_layStates_226 : decode prog_14_method_31_code 226 = .ok (.aload_n 0, 1) := by decide +kernel
theorem d_Model_layStates_227 : decode prog_14_method_31_code 227 = .ok (.getfield 64, 3) := by decide +kernel
theorem d_Model_layStates_230 : decode prog_14_method_31_code 230 = .ok (.iload 4, 2) := by decide +kernel
theorem d_Model_layStates_232 : decode prog_14_method_31_code 232 = .ok (.iload 7, 2) := by decide +kernel
theorem d_Model_layStates_234 : decode prog_14_method_31_code 234 = .ok (.iadd, 1) := by decide +kernel
theorem d_Model_layStates_235 : decode prog_14_method_31_code 235 = .ok (.dup2, 1) := by decide +kernel
theorem d_Model_layStates_236 : decode prog_14_method_31_code 236 = .ok (.iaload, 1) := by decide +kernel
theorem d_Model_layStates_237 : decode prog_14_method_31_code 237 = .ok (.iconst 1, 1) := by decide +kernel
theorem d_Model_layStates_238 : decode prog_14_method_31_code 238 = .ok (.iadd, 1) := by decide +kernel
theorem d_Model_layStates_239 : decode prog_14_method_31_code 239 = .ok (.iastore, 1) := by decide +kernel
theorem d_Model_layStates_240 : decode prog_14_method_31_code 240 = .ok (.aload_n 0, 1) := by decide +kernel
theorem d_Model_layStates_241 : decode prog_14_method_31_code 241 = .ok (.getfield 55, 3) := by decide +kernel
theorem d_Model_layStates_244 : decode prog_14_method_31_code 244 = .ok (.iload 4, 2) := by decide +kernel
theorem d_Model_layStates_246 : decode prog_14_method_31_code 246 = .ok (.iload 6, 2) := by decide +kernel
theorem d_Model_layStates_248 : decode prog_14_method_31_code 248 = .ok (.iadd, 1) := by decide +kernel
theorem d_Model_layStates_249 : decode prog_14_method_31_code 249 = .ok (.iload 7, 2) := by decide +kernel
theorem d_Model_layStates_251 : decode prog_14_method_31_code 251 = .ok (.iastore, 1) := by decide +kernel
theorem d_Model_layStates_252 : decode prog_14_method_31_code 252 = .ok (.iinc 6 1, 3) := by decide +kernel
theorem d_Model_layStates_255 : decode prog_14_method_31_code 255 = .ok (.goto (-145), 3) := by decide +kernel
theorem d_Model_layStates_258 : decode prog_14_method_31_code 258 = .ok (.return_, 1) := by decide +kernel
abbrev m_s1_Model_layStates : Room := { frames := 2, cells := 0, slots := 0, locals := 48 }
set_option maxHeartbeats 4000000 in
set_option maxRecDepth 100000 in
theorem s1_Model_layStates (l : Launch) (G : zG) (b0 : Nat) (b1 : Int32) (b2 : Int32) (b3 : Int32) (b4 : Nat) (b5 : Nat) (b6 : Nat) (b7 : Nat) (b8 : Int32) (b9 : Nat) (b10 : Int32) (b11 : Int32) (b12 : Int32) (b13 : Int32) (b14 : Nat) (b15 : Nat) (b16 : Nat) (b17 : Int32) (b18 : Nat) (b19 : Nat) (b20 : Nat) (b21 : Nat) (b22 : Nat) (b23 : Nat) (b24 : Nat) (b25 : Nat) (b26 : Nat) (b27 : Nat) (b28 : Nat) (b29 : Nat) (b30 : Int32) (b31 : Nat) (b32 : Nat) (b33 : Int32) (b34 : Int32) (b35 : Int32) (b36 : Int32) (b37 : Nat) (b38 : Nat) (b39 : Nat) (b40 : Nat) (b41 : Nat) (b42 : Nat) (b43 : Nat) (b44 : Int32) (b45 : Nat) (b46 : Nat) (b47 : Int32) (b48 : Nat) (b49 : Nat) (b50 : Nat) (b51 : Nat) (b52 : Nat) (b53 : Int32) (b54 : Nat) (b55 : Nat) (b56 : Nat) (b57 : Nat → Int32) (b58 : Nat → Int32) (b59 : Nat → Int32) (b60 : Nat → Int32) (b61 : Nat → Int32) (b62 : Nat → Int32) (b63 : Nat → Int32) (b64 : Nat → Int32) (b65 : Nat → Int32) (b66 : Nat → Int32) (hb1 : zI b1 0 3) (hb2 : zI b2 (-1) 19) (hb8 : zI b8 0 8) (hb10 : zI b10 0 240) (hb11 : zI b11 0 240) (hb13 : zI b13 0 1) (hb17 : zI b17 0 12) (hb30 : zI b30 0 1) (hb33 : zI b33 0 1) (hb44 : zI b44 0 1000) (hb47 : zI b47 0 1000) (hb53 : zI b53 0 400) (hb57 : zW5 b57) (hb58 : zR b58 0 241) (hb59 : zqa qP b59) (hb61 : zqa qC b61) (hb62 : zR b62 0 240) (hb63 : zR b63 0 241) (hb64 : zR b64 0 240) (htm : zTm ((b57 (0 : Int32).toNatClampNeg).toInt) (b2 : Int32).toInt (b58 (0 : Int32).toNatClampNeg).toInt 0 b57 b59) (hz0 : ∀ q : Nat, (q : Int) < (b58 (0 : Int32).toNatClampNeg).toInt → (b61 (0 + q)).toInt = 0) : zM l G y_Model_layStates prog_14_method_31_code 8 (Option.none : Option Jvm.ClassFile.FieldType) m_s1_Model_layStates [.ref b0, .int 0, .int b1, .int b2] [(b0, .inr (12, [.int b3, .ref b4, .ref b5, .ref b6, .ref b7, .int b8, .ref b9, .int b10, .int b11, .int b12, .int b13, .ref b14, .ref b15, .ref b16, .int b17, .ref b18, .ref b19, .ref b20, .ref b21, .ref b22, .ref b23, .ref b24, .ref b25, .ref b26, .ref b27, .ref b28, .ref b29, .int b30, .ref b31, .ref b32, .int b33, .int b34, .int b35, .int b36, .ref b37, .ref b38, .ref b39, .ref b40, .ref b41, .ref b42, .ref b43, .int b44, .ref b45, .ref b46, .int b47, .ref b48, .ref b49, .ref b50, .ref b51, .ref b52, .int b53, .ref b54, .ref b55, .ref b56])), (b4, .inl (G.2 0, 503, .inl b57)), (b18, .inl (G.2 0, 2, .inl b58)), (b20, .inl (G.2 0, 520, .inl b59)), (b21, .inl (G.2 0, 9640, .inl b60)), (b22, .inl (G.2 0, 482, .inl b61)), (b23, .inl (G.2 0, 482, .inl b62)), (b24, .inl (G.2 0, 2, .inl b63)), (b25, .inl (G.2 0, 482, .inl b64)), (b26, .inl (G.2 0, 482, .inl b65)), (b27, .inl (G.2 0, 482, .inl b66))] (fun v w => ∃ (e0 : Nat → Int32), ∃ (e1 : Nat → Int32), ∃ (e2 : Nat → Int32), ∃ (e3 : Nat → Int32), ∃ (e4 : Nat → Int32), ∃ (e5 : Nat → Int32), ∃ (e6 : Nat → Int32), v = none ∧ w = [(b0, .inr (12, [.int b3, .ref b4, .ref b5, .ref b6, .ref b7, .int b8, .ref b9, .int b10, .int b11, .int b12, .int b13, .ref b14, .ref b15, .ref b16, .int b17, .ref b18, .ref b19, .ref b20, .ref b21, .ref b22, .ref b23, .ref b24, .ref b25, .ref b26, .ref b27, .ref b28, .ref b29, .int b30, .ref b31, .ref b32, .int b33, .int b34, .int b35, .int b36, .ref b37, .ref b38, .ref b39, .ref b40, .ref b41, .ref b42, .ref b43, .int b44, .ref b45, .ref b46, .int b47, .ref b48, .ref b49, .ref b50, .ref b51, .ref b52, .int b53, .ref b54, .ref b55, .ref b56])), (b4, .inl (G.2 0, 503, .inl b57)), (b18, .inl (G.2 0, 2, .inl b58)), (b20, .inl (G.2 0, 520, .inl b59)), (b21, .inl (G.2 0, 9640, .inl e0)), (b22, .inl (G.2 0, 482, .inl e1)), (b23, .inl (G.2 0, 482, .inl e2)), (b24, .inl (G.2 0, 2, .inl e3)), (b25, .inl (G.2 0, 482, .inl e4)), (b26, .inl (G.2 0, 482, .inl e5)), (b27, .inl (G.2 0, 482, .inl e6))] ∧ (zqa qC e1) ∧ (zR e2 0 240) ∧ (zR e3 0 241) ∧ (zR e4 0 240) ∧ ((b2 : Int32).toInt = -1 → 1 ≤ (b57 (0 : Int32).toNatClampNeg).toInt → 1 ≤ (b58 (0 : Int32).toNatClampNeg).toInt → ∀ p : Nat, (p : Int) < (b58 (0 : Int32).toNatClampNeg).toInt → (e2 p).toInt < (e3 (0 : Int32).toNatClampNeg).toInt) ∧ ((b2 : Int32).toInt = -1 → 1 ≤ (b57 (0 : Int32).toNatClampNeg).toInt → 1 ≤ (b58 (0 : Int32).toNatClampNeg).toInt → (e2 0).toInt = 0) ∧ (∀ s : Nat, (s : Int) < (e3 (0 : Int32).toNatClampNeg).toInt → (e6 s).toInt = 0)) := by
  refine z_start (by decide +kernel) (Nat.le_of_ble_eq_true rfl) ?_
  intro p e s m below meth c A Z hr hnm hA hP hD hS ls hl
  have Z : zC p s m _ meth c prog_14_method_31_code 8 "TraceMachinesModel" G := Z
  obtain ⟨hx, hb, hml, hown, hts, hK, hN, hlocks⟩ := id Z
  have hl : lv_has ls 8 [(0, .ref b0), (1, .int 0), (2, .int b1), (3, .int b2)] := hl
  refine lv_sipush (v := 241) hx hb d_Model_layStates_0 (by decide) ?_
  refine lv_iload_n hx hb d_Model_layStates_3 rfl (lv_at hl 1 rfl) ?_
  refine lv_imul hx hb d_Model_layStates_4 ?_
  refine z_topi (y := 0) (by decide +kernel) ?_
  refine lv_istore (lv' := [(4, .int 0), (0, .ref b0), (1, .int 0), (2, .int b1), (3, .int b2)]) hx hb d_Model_layStates_5 hl (by decide) rfl (fun ls hl => ?_)
  refine lv_iconst (v := 0) hx hb d_Model_layStates_7 (by decide) ?_
  refine lv_istore (lv' := [(5, .int 0), (4, .int 0), (0, .ref b0), (1, .int 0), (2, .int b1), (3, .int b2)]) hx hb d_Model_layStates_8 hl (by decide) rfl (fun ls hl => ?_)
  suffices key : ∀ (k_761 : Nat) (y_762 : Int32) (y_763 : Nat → Int32) (y_764 : Nat → Int32) (H : Heap) (locs : List Loc) (ls : Array Slot), (zI y_762 0 20) → (zqa qC y_764) → (∀ q : Nat, (q : Int) < (b58 (0 : Int32).toNatClampNeg).toInt → (y_764 (0 + q)).toInt = 0 ∨ (y_764 (0 + q)).toInt + (q : Int) ≤ 13 * (y_762 : Int32).toInt) → (20 : Int) - y_762.toInt < (k_761 : Int) → va_P G.1 classes [(b0, .inr (12, [.int b3, .ref b4, .ref b5, .ref b6, .ref b7, .int b8, .ref b9, .int b10, .int b11, .int b12, .int b13, .ref b14, .ref b15, .ref b16, .int b17, .ref b18, .ref b19, .ref b20, .ref b21, .ref b22, .ref b23, .ref b24, .ref b25, .ref b26, .ref b27, .ref b28, .ref b29, .int b30, .ref b31, .ref b32, .int b33, .int b34, .int b35, .int b36, .ref b37, .ref b38, .ref b39, .ref b40, .ref b41, .ref b42, .ref b43, .int b44, .ref b45, .ref b46, .int b47, .ref b48, .ref b49, .ref b50, .ref b51, .ref b52, .int b53, .ref b54, .ref b55, .ref b56])), (b4, .inl (G.2 0, 503, .inl b57)), (b18, .inl (G.2 0, 2, .inl b58)), (b20, .inl (G.2 0, 520, .inl b59)), (b21, .inl (G.2 0, 9640, .inl y_763)), (b22, .inl (G.2 0, 482, .inl y_764)), (b23, .inl (G.2 0, 482, .inl b62)), (b24, .inl (G.2 0, 2, .inl b63)), (b25, .inl (G.2 0, 482, .inl b64)), (b26, .inl (G.2 0, 482, .inl b65)), (b27, .inl (G.2 0, 482, .inl b66))] H → va_D A [(b0, .inr (12, [.int b3, .ref b4, .ref b5, .ref b6, .ref b7, .int b8, .ref b9, .int b10, .int b11, .int b12, .int b13, .ref b14, .ref b15, .ref b16, .int b17, .ref b18, .ref b19, .ref b20, .ref b21, .ref b22, .ref b23, .ref b24, .ref b25, .ref b26, .ref b27, .ref b28, .ref b29, .int b30, .ref b31, .ref b32, .int b33, .int b34, .int b35, .int b36, .ref b37, .ref b38, .ref b39, .ref b40, .ref b41, .ref b42, .ref b43, .int b44, .ref b45, .ref b46, .int b47, .ref b48, .ref b49, .ref b50, .ref b51, .ref b52, .int b53, .ref b54, .ref b55, .ref b56])), (b4, .inl (G.2 0, 503, .inl b57)), (b18, .inl (G.2 0, 2, .inl b58)), (b20, .inl (G.2 0, 520, .inl b59)), (b21, .inl (G.2 0, 9640, .inl y_763)), (b22, .inl (G.2 0, 482, .inl y_764)), (b23, .inl (G.2 0, 482, .inl b62)), (b24, .inl (G.2 0, 2, .inl b63)), (b25, .inl (G.2 0, 482, .inl b64)), (b26, .inl (G.2 0, 482, .inl b65)), (b27, .inl (G.2 0, 482, .inl b66))] → va_S A s.heap H locs → lv_has ls 8 [(5, .int y_762), (4, .int 0), (0, .ref b0), (1, .int 0), (2, .int b1), (3, .int b2)] → W p l e m_s1_Model_layStates s m ([.ref b0, .int 0, .int b1, .int b2] : List Value).toArray below meth c H locs 0 0 (MQ below (zQ G (fun v w => ∃ (e0 : Nat → Int32), ∃ (e1 : Nat → Int32), ∃ (e2 : Nat → Int32), ∃ (e3 : Nat → Int32), ∃ (e4 : Nat → Int32), ∃ (e5 : Nat → Int32), ∃ (e6 : Nat → Int32), v = none ∧ w = [(b0, .inr (12, [.int b3, .ref b4, .ref b5, .ref b6, .ref b7, .int b8, .ref b9, .int b10, .int b11, .int b12, .int b13, .ref b14, .ref b15, .ref b16, .int b17, .ref b18, .ref b19, .ref b20, .ref b21, .ref b22, .ref b23, .ref b24, .ref b25, .ref b26, .ref b27, .ref b28, .ref b29, .int b30, .ref b31, .ref b32, .int b33, .int b34, .int b35, .int b36, .ref b37, .ref b38, .ref b39, .ref b40, .ref b41, .ref b42, .ref b43, .int b44, .ref b45, .ref b46, .int b47, .ref b48, .ref b49, .ref b50, .ref b51, .ref b52, .int b53, .ref b54, .ref b55, .ref b56])), (b4, .inl (G.2 0, 503, .inl b57)), (b18, .inl (G.2 0, 2, .inl b58)), (b20, .inl (G.2 0, 520, .inl b59)), (b21, .inl (G.2 0, 9640, .inl e0)), (b22, .inl (G.2 0, 482, .inl e1)), (b23, .inl (G.2 0, 482, .inl e2)), (b24, .inl (G.2 0, 2, .inl e3)), (b25, .inl (G.2 0, 482, .inl e4)), (b26, .inl (G.2 0, 482, .inl e5)), (b27, .inl (G.2 0, 482, .inl e6))] ∧ (zqa qC e1) ∧ (zR e2 0 240) ∧ (zR e3 0 241) ∧ (zR e4 0 240) ∧ ((b2 : Int32).toInt = -1 → 1 ≤ (b57 (0 : Int32).toNatClampNeg).toInt → 1 ≤ (b58 (0 : Int32).toNatClampNeg).toInt → ∀ p : Nat, (p : Int) < (b58 (0 : Int32).toNatClampNeg).toInt → (e2 p).toInt < (e3 (0 : Int32).toNatClampNeg).toInt) ∧ ((b2 : Int32).toInt = -1 → 1 ≤ (b57 (0 : Int32).toNatClampNeg).toInt → 1 ≤ (b58 (0 : Int32).toNatClampNeg).toInt → (e2 0).toInt = 0) ∧ (∀ s : Nat, (s : Int) < (e3 (0 : Int32).toNatClampNeg).toInt → (e6 s).toInt = 0)) A) ([.ref b0, .int 0, .int b1, .int b2] : List Value).toArray s m_s1_Model_layStates.cells m_s1_Model_layStates.slots A) (F0 m 10 ls []) by
    exact key 21 (0) (b60) (b61) _ _ _ (zI.wk (l' := 0) (h' := 20) zc_0 (by decide)) hb61 (fun q hq => Or.inl (hz0 q hq)) (zm_upi (zI.wk (l' := 0) (h' := 20) zc_0 (by decide)) (by decide)) hP hD hS (lv_sub hl [0, 1, 2, 3, 4, 5] rfl)
  intro k_761
  induction k_761 with
  | zero =>
    intro y_762 y_763 y_764 H locs ls hy_762 hy_764 hli_765 hmk_761 hP hD hS hl
    exact (zm_up0 hy_762 hmk_761).elim
  | succ k_761 ihk_761 =>
    intro y_762 y_763 y_764 H locs ls hy_762 hy_764 hli_765 hmk_761 hP hD hS hl
    refine lv_iload hx hb d_Model_layStates_10 (lv_at hl 0 rfl) ?_
    refine lv_aload_n hx hb d_Model_layStates_12 rfl (lv_at hl 2 rfl) ?_
    refine z_callV (index := 134) (As := []) (rest := [.int y_762]) (wr := [(b18, .inl (G.2 0, 2, .inl b58)), (b20, .inl (G.2 0, 520, .inl b59)), (b21, .inl (G.2 0, 9640, .inl y_763)), (b22, .inl (G.2 0, 482, .inl y_764)), (b23, .inl (G.2 0, 482, .inl b62)), (b24, .inl (G.2 0, 2, .inl b63)), (b25, .inl (G.2 0, 482, .inl b64)), (b26, .inl (G.2 0, 482, .inl b65)), (b27, .inl (G.2 0, 482, .inl b66))]) Z (s1_Model_many l G (b0) (b3) (b4) (b5) (b6) (b7) (b8) (b9) (b10) (b11) (b12) (b13) (b14) (b15) (b16) (b17) (b18) (b19) (b20) (b21) (b22) (b23) (b24) (b25) (b26) (b27) (b28) (b29) (b30) (b31) (b32) (b33) (b34) (b35) (b36) (b37) (b38) (b39) (b40) (b41) (b42) (b43) (b44) (b45) (b46) (b47) (b48) (b49) (b50) (b51) (b52) (b53) (b54) (b55) (b56) (b57) hb8 hb10 hb11 hb13 hb17 hb30 hb33 hb44 hb47 hb53 hb57) hl.1 q1320 q1322 qs51 q14 q1323 ⟨by decide, by decide, by show _ = some 0; decide +kernel⟩ ⟨Nat.le_of_ble_eq_true rfl, Nat.le_of_ble_eq_true rfl⟩ ⟨Nat.le_of_ble_eq_true rfl, Nat.le_of_ble_eq_true rfl⟩ rfl (Nat.le_of_ble_eq_true rfl) d_Model_layStates_13 hP hD hS hA 0 12 rfl rfl rfl [0, 1] [2, 3, 4, 5, 6, 7, 8, 9, 10] rfl rfl rfl rfl (by decide) (fun v w1 H locs hw_766 hP hD hS => ?_)
    obtain ⟨x_767, rfl, rfl, hx_767, hfx_768⟩ := hw_766
    have hP : va_P G.1 classes [(b18, .inl (G.2 0, 2, .inl b58)), (b20, .inl (G.2 0, 520, .inl b59)), (b21, .inl (G.2 0, 9640, .inl y_763)), (b22, .inl (G.2 0, 482, .inl y_764)), (b23, .inl (G.2 0, 482, .inl b62)), (b24, .inl (G.2 0, 2, .inl b63)), (b25, .inl (G.2 0, 482, .inl b64)), (b26, .inl (G.2 0, 482, .inl b65)), (b27, .inl (G.2 0, 482, .inl b66)), (b0, .inr (12, [.int b3, .ref b4, .ref b5, .ref b6, .ref b7, .int b8, .ref b9, .int b10, .int b11, .int b12, .int b13, .ref b14, .ref b15, .ref b16, .int b17, .ref b18, .ref b19, .ref b20, .ref b21, .ref b22, .ref b23, .ref b24, .ref b25, .ref b26, .ref b27, .ref b28, .ref b29, .int b30, .ref b31, .ref b32, .int b33, .int b34, .int b35, .int b36, .ref b37, .ref b38, .ref b39, .ref b40, .ref b41, .ref b42, .ref b43, .int b44, .ref b45, .ref b46, .int b47, .ref b48, .ref b49, .ref b50, .ref b51, .ref b52, .int b53, .ref b54, .ref b55, .ref b56])), (b4, .inl (G.2 0, 503, .inl b57))] H := hP
    have hD := z_tie hP hD rfl
    refine W.widen (k := 0) (n := 0) (Nat.le_of_ble_eq_true rfl) (Nat.le_of_ble_eq_true rfl) ?_
    refine lv_icmp_ge (tgt := 76) hx hb d_Model_layStates_16 (by decide) (fun hc_769 => ?_) (fun hc_769 => ?_)
    · have _nhc_769 := hc_769
      have ni_770 := (fa_le _ _).mp hc_769
      refine lv_aload_n hx hb d_Model_layStates_76 rfl (lv_at hl 2 rfl) ?_
      refine va_get (D := G.1) (ci := 12) (v := .ref b24) (C := R_Model) (T := F_Model) (N := 54) hx hb hts i_Model hown hK hP 9 rfl rfl 21 (by decide) (hts _ q1130) (fun _ h9 => h9) rfl d_Model_layStates_77 ?_
      refine lv_iload_n hx hb d_Model_layStates_80 rfl (lv_at hl 3 rfl) ?_
      refine lv_iconst (v := 0) hx hb d_Model_layStates_81 (by decide) ?_
      refine va_iast hx hb hK hP hD hS 5 0 rfl rfl (i := 0) (z_in rfl) d_Model_layStates_82 (fun H locs hP hD hS => ?_)
      obtain ⟨f_771, hf_771, gf_771, uf_771, hP, hD⟩ := z_newfu 5 hP hD rfl hb63 (zI.wk (l' := 0) (h' := 241) zc_0 (by decide))
      have hP : va_P G.1 classes [(b18, .inl (G.2 0, 2, .inl b58)), (b20, .inl (G.2 0, 520, .inl b59)), (b21, .inl (G.2 0, 9640, .inl y_763)), (b22, .inl (G.2 0, 482, .inl y_764)), (b23, .inl (G.2 0, 482, .inl b62)), (b24, .inl (G.2 0, 2, .inl f_771)), (b25, .inl (G.2 0, 482, .inl b64)), (b26, .inl (G.2 0, 482, .inl b65)), (b27, .inl (G.2 0, 482, .inl b66)), (b0, .inr (12, [.int b3, .ref b4, .ref b5, .ref b6, .ref b7, .int b8, .ref b9, .int b10, .int b11, .int b12, .int b13, .ref b14, .ref b15, .ref b16, .int b17, .ref b18, .ref b19, .ref b20, .ref b21, .ref b22, .ref b23, .ref b24, .ref b25, .ref b26, .ref b27, .ref b28, .ref b29, .int b30, .ref b31, .ref b32, .int b33, .int b34, .int b35, .int b36, .ref b37, .ref b38, .ref b39, .ref b40, .ref b41, .ref b42, .ref b43, .int b44, .ref b45, .ref b46, .int b47, .ref b48, .ref b49, .ref b50, .ref b51, .ref b52, .int b53, .ref b54, .ref b55, .ref b56])), (b4, .inl (G.2 0, 503, .inl b57))] H := hP
      have hD := z_tie hP hD rfl
      refine lv_aload_n hx hb d_Model_layStates_83 rfl (lv_at hl 2 rfl) ?_
      refine z_callV (index := 134) (As := []) (rest := []) (wr := [(b18, .inl (G.2 0, 2, .inl b58)), (b20, .inl (G.2 0, 520, .inl b59)), (b21, .inl (G.2 0, 9640, .inl y_763)), (b22, .inl (G.2 0, 482, .inl y_764)), (b23, .inl (G.2 0, 482, .inl b62)), (b24, .inl (G.2 0, 2, .inl f_771)), (b25, .inl (G.2 0, 482, .inl b64)), (b26, .inl (G.2 0, 482, .inl b65)), (b27, .inl (G.2 0, 482, .inl b66))]) Z (s1_Model_many l G (b0) (b3) (b4) (b5) (b6) (b7) (b8) (b9) (b10) (b11) (b12) (b13) (b14) (b15) (b16) (b17) (b18) (b19) (b20) (b21) (b22) (b23) (b24) (b25) (b26) (b27) (b28) (b29) (b30) (b31) (b32) (b33) (b34) (b35) (b36) (b37) (b38) (b39) (b40) (b41) (b42) (b43) (b44) (b45) (b46) (b47) (b48) (b49) (b50) (b51) (b52) (b53) (b54) (b55) (b56) (b57) hb8 hb10 hb11 hb13 hb17 hb30 hb33 hb44 hb47 hb53 hb57) hl.1 q1320 q1322 qs51 q14 q1323 ⟨by decide, by decide, by show _ = some 0; decide +kernel⟩ ⟨Nat.le_of_ble_eq_true rfl, Nat.le_of_ble_eq_true rfl⟩ ⟨Nat.le_of_ble_eq_true rfl, Nat.le_of_ble_eq_true rfl⟩ rfl (Nat.le_of_ble_eq_true rfl) d_Model_layStates_84 hP hD hS hA 9 12 rfl rfl rfl [9, 10] [0, 1, 2, 3, 4, 5, 6, 7, 8] rfl rfl rfl rfl (by decide) (fun v w1 H locs hw_772 hP hD hS => ?_)
      obtain ⟨x_773, rfl, rfl, hx_773, hfx_774⟩ := hw_772
      have hP : va_P G.1 classes [(b18, .inl (G.2 0, 2, .inl b58)), (b20, .inl (G.2 0, 520, .inl b59)), (b21, .inl (G.2 0, 9640, .inl y_763)), (b22, .inl (G.2 0, 482, .inl y_764)), (b23, .inl (G.2 0, 482, .inl b62)), (b24, .inl (G.2 0, 2, .inl f_771)), (b25, .inl (G.2 0, 482, .inl b64)), (b26, .inl (G.2 0, 482, .inl b65)), (b27, .inl (G.2 0, 482, .inl b66)), (b0, .inr (12, [.int b3, .ref b4, .ref b5, .ref b6, .ref b7, .int b8, .ref b9, .int b10, .int b11, .int b12, .int b13, .ref b14, .ref b15, .ref b16, .int b17, .ref b18, .ref b19, .ref b20, .ref b21, .ref b22, .ref b23, .ref b24, .ref b25, .ref b26, .ref b27, .ref b28, .ref b29, .int b30, .ref b31, .ref b32, .int b33, .int b34, .int b35, .int b36, .ref b37, .ref b38, .ref b39, .ref b40, .ref b41, .ref b42, .ref b43, .int b44, .ref b45, .ref b46, .int b47, .ref b48, .ref b49, .ref b50, .ref b51, .ref b52, .int b53, .ref b54, .ref b55, .ref b56])), (b4, .inl (G.2 0, 503, .inl b57))] H := hP
      have hD := z_tie hP hD rfl
      refine W.widen (k := 0) (n := 0) (Nat.le_of_ble_eq_true rfl) (Nat.le_of_ble_eq_true rfl) ?_
      refine lv_iload_n hx hb d_Model_layStates_87 rfl (lv_at hl 5 rfl) ?_
      refine lv_iconst (v := (-1)) hx hb d_Model_layStates_88 (by decide) ?_
      refine lv_icmp_ne (tgt := 96) hx hb d_Model_layStates_89 (by decide) (fun hc_775 => ?_) (fun hc_775 => ?_)
      · have _nhc_775 := hc_775
        have ni_776 : ¬ (b2 : Int32).toInt = ((-1) : Int32).toInt := fun z => hc_775 ((fa_eq _ _).mpr z)
        simp only [li_m1] at ni_776
        have hv_777 : zI b2 0 19 := zI.ne_lo hb2 zc_m1 hc_775 (by decide)
        refine lv_iconst (v := 1) hx hb d_Model_layStates_96 (by decide) ?_
        refine lv_icmp_le (tgt := 104) hx hb d_Model_layStates_97 (by decide) (fun hc_778 => ?_) (fun hc_778 => ?_)
        · have _nhc_778 := hc_778
          have ni_779 := (fa_le _ _).mp hc_778
          rw [li_1] at ni_779
          have hv_780 : zI x_773 0 1 := zI.le_l hx_773 zc_1 hc_778 (by decide)
          refine lv_iconst (v := 0) hx hb d_Model_layStates_104 (by decide) ?_
          refine lv_istore (lv' := [(5, .int 0), (4, .int 0), (0, .ref b0), (1, .int 0), (2, .int b1), (3, .int b2)]) hx hb d_Model_layStates_105 hl (by decide) rfl (fun ls hl => ?_)
          refine lv_iconst (v := 0) hx hb d_Model_layStates_107 (by decide) ?_
          refine lv_istore (lv' := [(6, .int 0), (5, .int 0), (4, .int 0), (0, .ref b0), (1, .int 0), (2, .int b1), (3, .int b2)]) hx hb d_Model_layStates_108 hl (by decide) rfl (fun ls hl => ?_)
          refine lv_iload hx hb d_Model_layStates_110 (lv_at hl 0 rfl) ?_
          refine lv_aload_n hx hb d_Model_layStates_112 rfl (lv_at hl 3 rfl) ?_
          refine va_get (D := G.1) (ci := 12) (v := .ref b18) (C := R_Model) (T := F_Model) (N := 54) hx hb hts i_Model hown hK hP 9 rfl rfl 15 (by decide) (hts _ q1124) (fun _ h9 => h9) rfl d_Model_layStates_113 ?_
          refine lv_iload_n hx hb d_Model_layStates_116 rfl (lv_at hl 4 rfl) ?_
          refine va_iald hx hb hK hP 0 0 rfl rfl (i := 0) (z_in rfl) d_Model_layStates_117 ?_
          refine lv_topi (fun v_793 ev_793 => ?_)
          have hv_793 : zI v_793 0 241 := (hb58 _).eq ev_793
          refine lv_icmp_ge (tgt := 258) hx hb d_Model_layStates_118 (by decide) (fun hc_794 => ?_) (fun hc_794 => ?_)
          · have _nhc_794 := hc_794
            have ni_795 := (fa_le _ _).mp hc_794
            rw [li_0] at ni_795
            have hv_796 : zI v_793 0 0 := zI.le_l hv_793 zc_0 hc_794 (by decide)
            exact z_vret hx hb hr hlocks (hP.sub [9, 10, 0, 1, 2, 3, 4, 5, 6, 7, 8] rfl) (hD.sub [9, 10, 0, 1, 2, 3, 4, 5, 6, 7, 8] (by decide) rfl) hS (Nat.le_of_ble_eq_true rfl) (Nat.le_of_ble_eq_true rfl) d_Model_layStates_258 ⟨y_763, y_764, b62, f_771, b64, b65, b66, rfl, rfl, hy_764, hb62, hf_771, hb64, (by intro h1 h2 h3; exfalso; have h5 := congrArg Int32.toInt hfx_774; have _l0 := li_0; have _l1 := li_1; have _l2 := li_m1; omega), (by intro h1 h2 h3; exfalso; have h5 := congrArg Int32.toInt hfx_774; have _l0 := li_0; have _l1 := li_1; have _l2 := li_m1; omega), (by have _l0 := li_0; intro q hq; rw [gf_771] at hq; omega)⟩
          · have _nhc_794 := hc_794
            have ni_797 := (fa_lt _ _).mp (zi_nle hc_794)
            rw [li_0] at ni_797
            have hv_798 : zI v_793 1 241 := zI.lt_r zc_0 hv_793 (zi_nle hc_794) (by decide)
            refine lv_iload hx hb d_Model_layStates_121 (lv_at hl 1 rfl) ?_
            refine lv_if_eq (tgt := 258) hx hb d_Model_layStates_123 (by decide) (fun _ => ?_) (fun hc => absurd hc (by decide +kernel))
            exact z_vret hx hb hr hlocks (hP.sub [9, 10, 0, 1, 2, 3, 4, 5, 6, 7, 8] rfl) (hD.sub [9, 10, 0, 1, 2, 3, 4, 5, 6, 7, 8] (by decide) rfl) hS (Nat.le_of_ble_eq_true rfl) (Nat.le_of_ble_eq_true rfl) d_Model_layStates_258 ⟨y_763, y_764, b62, f_771, b64, b65, b66, rfl, rfl, hy_764, hb62, hf_771, hb64, (by intro h1 h2 h3; exfalso; have h5 := congrArg Int32.toInt hfx_774; have _l0 := li_0; have _l1 := li_1; have _l2 := li_m1; omega), (by intro h1 h2 h3; exfalso; have h5 := congrArg Int32.toInt hfx_774; have _l0 := li_0; have _l1 := li_1; have _l2 := li_m1; omega), (by have _l0 := li_0; intro q hq; rw [gf_771] at hq; omega)⟩
        · have _nhc_778 := hc_778
          have ni_799 := (fa_lt _ _).mp (zi_nle hc_778)
          rw [li_1] at ni_799
          have hv_800 : zI x_773 2 20 := zI.lt_r zc_1 hx_773 (zi_nle hc_778) (by decide)
          refine lv_iconst (v := 1) hx hb d_Model_layStates_100 (by decide) ?_
          refine lv_goto (tgt := 105) hx hb d_Model_layStates_101 (by decide) ?_
          refine lv_istore (lv' := [(5, .int 1), (4, .int 0), (0, .ref b0), (1, .int 0), (2, .int b1), (3, .int b2)]) hx hb d_Model_layStates_105 hl (by decide) rfl (fun ls hl => ?_)
          refine lv_iconst (v := 0) hx hb d_Model_layStates_107 (by decide) ?_
          refine lv_istore (lv' := [(6, .int 0), (5, .int 1), (4, .int 0), (0, .ref b0), (1, .int 0), (2, .int b1), (3, .int b2)]) hx hb d_Model_layStates_108 hl (by decide) rfl (fun ls hl => ?_)
          suffices key : ∀ (k_957 : Nat) (y_958 : Int32) (y_959 : Nat → Int32) (y_960 : Nat → Int32) (y_961 : Nat → Int32) (y_962 : Nat → Int32) (y_963 : Nat → Int32) (H : Heap) (locs : List Loc) (ls : Array Slot), (zI y_958 0 241) → (zR y_959 0 240) → (zR y_960 0 241) → (zR y_961 0 240) → ((y_960 (0 : Int32).toNatClampNeg).toInt ≤ (y_958 : Int32).toInt) → (∀ p : Nat, (p : Int) < (y_958 : Int32).toInt → (y_959 p).toInt < (y_960 (0 : Int32).toNatClampNeg).toInt) → (1 ≤ (y_958 : Int32).toInt → (y_959 0).toInt = 0) → (∀ s : Nat, (s : Int) < (y_960 (0 : Int32).toNatClampNeg).toInt → (y_963 s).toInt = 0) → (241 : Int) - y_958.toInt < (k_957 : Int) → va_P G.1 classes [(b18, .inl (G.2 0, 2, .inl b58)), (b20, .inl (G.2 0, 520, .inl b59)), (b21, .inl (G.2 0, 9640, .inl y_763)), (b22, .inl (G.2 0, 482, .inl y_764)), (b23, .inl (G.2 0, 482, .inl y_959)), (b24, .inl (G.2 0, 2, .inl y_960)), (b25, .inl (G.2 0, 482, .inl y_961)), (b26, .inl (G.2 0, 482, .inl y_962)), (b27, .inl (G.2 0, 482, .inl y_963)), (b0, .inr (12, [.int b3, .ref b4, .ref b5, .ref b6, .ref b7, .int b8, .ref b9, .int b10, .int b11, .int b12, .int b13, .ref b14, .ref b15, .ref b16, .int b17, .ref b18, .ref b19, .ref b20, .ref b21, .ref b22, .ref b23, .ref b24, .ref b25, .ref b26, .ref b27, .ref b28, .ref b29, .int b30, .ref b31, .ref b32, .int b33, .int b34, .int b35, .int b36, .ref b37, .ref b38, .ref b39, .ref b40, .ref b41, .ref b42, .ref b43, .int b44, .ref b45, .ref b46, .int b47, .ref b48, .ref b49, .ref b50, .ref b51, .ref b52, .int b53, .ref b54, .ref b55, .ref b56])), (b4, .inl (G.2 0, 503, .inl b57))] H → va_D A [(b18, .inl (G.2 0, 2, .inl b58)), (b20, .inl (G.2 0, 520, .inl b59)), (b21, .inl (G.2 0, 9640, .inl y_763)), (b22, .inl (G.2 0, 482, .inl y_764)), (b23, .inl (G.2 0, 482, .inl y_959)), (b24, .inl (G.2 0, 2, .inl y_960)), (b25, .inl (G.2 0, 482, .inl y_961)), (b26, .inl (G.2 0, 482, .inl y_962)), (b27, .inl (G.2 0, 482, .inl y_963)), (b0, .inr (12, [.int b3, .ref b4, .ref b5, .ref b6, .ref b7, .int b8, .ref b9, .int b10, .int b11, .int b12, .int b13, .ref b14, .ref b15, .ref b16, .int b17, .ref b18, .ref b19, .ref b20, .ref b21, .ref b22, .ref b23, .ref b24, .ref b25, .ref b26, .ref b27, .ref b28, .ref b29, .int b30, .ref b31, .ref b32, .int b33, .int b34, .int b35, .int b36, .ref b37, .ref b38, .ref b39, .ref b40, .ref b41, .ref b42, .ref b43, .int b44, .ref b45, .ref b46, .int b47, .ref b48, .ref b49, .ref b50, .ref b51, .ref b52, .int b53, .ref b54, .ref b55, .ref b56])), (b4, .inl (G.2 0, 503, .inl b57))] → va_S A s.heap H locs → lv_has ls 8 [(6, .int y_958), (5, .int 1), (4, .int 0), (0, .ref b0), (1, .int 0), (2, .int b1), (3, .int b2)] → W p l e m_s1_Model_layStates s m ([.ref b0, .int 0, .int b1, .int b2] : List Value).toArray below meth c H locs 0 0 (MQ below (zQ G (fun v w => ∃ (e0 : Nat → Int32), ∃ (e1 : Nat → Int32), ∃ (e2 : Nat → Int32), ∃ (e3 : Nat → Int32), ∃ (e4 : Nat → Int32), ∃ (e5 : Nat → Int32), ∃ (e6 : Nat → Int32), v = none ∧ w = [(b0, .inr (12, [.int b3, .ref b4, .ref b5, .ref b6, .ref b7, .int b8, .ref b9, .int b10, .int b11, .int b12, .int b13, .ref b14, .ref b15, .ref b16, .int b17, .ref b18, .ref b19, .ref b20, .ref b21, .ref b22, .ref b23, .ref b24, .ref b25, .ref b26, .ref b27, .ref b28, .ref b29, .int b30, .ref b31, .ref b32, .int b33, .int b34, .int b35, .int b36, .ref b37, .ref b38, .ref b39, .ref b40, .ref b41, .ref b42, .ref b43, .int b44, .ref b45, .ref b46, .int b47, .ref b48, .ref b49, .ref b50, .ref b51, .ref b52, .int b53, .ref b54, .ref b55, .ref b56])), (b4, .inl (G.2 0, 503, .inl b57)), (b18, .inl (G.2 0, 2, .inl b58)), (b20, .inl (G.2 0, 520, .inl b59)), (b21, .inl (G.2 0, 9640, .inl e0)), (b22, .inl (G.2 0, 482, .inl e1)), (b23, .inl (G.2 0, 482, .inl e2)), (b24, .inl (G.2 0, 2, .inl e3)), (b25, .inl (G.2 0, 482, .inl e4)), (b26, .inl (G.2 0, 482, .inl e5)), (b27, .inl (G.2 0, 482, .inl e6))] ∧ (zqa qC e1) ∧ (zR e2 0 240) ∧ (zR e3 0 241) ∧ (zR e4 0 240) ∧ ((b2 : Int32).toInt = -1 → 1 ≤ (b57 (0 : Int32).toNatClampNeg).toInt → 1 ≤ (b58 (0 : Int32).toNatClampNeg).toInt → ∀ p : Nat, (p : Int) < (b58 (0 : Int32).toNatClampNeg).toInt → (e2 p).toInt < (e3 (0 : Int32).toNatClampNeg).toInt) ∧ ((b2 : Int32).toInt = -1 → 1 ≤ (b57 (0 : Int32).toNatClampNeg).toInt → 1 ≤ (b58 (0 : Int32).toNatClampNeg).toInt → (e2 0).toInt = 0) ∧ (∀ s : Nat, (s : Int) < (e3 (0 : Int32).toNatClampNeg).toInt → (e6 s).toInt = 0)) A) ([.ref b0, .int 0, .int b1, .int b2] : List Value).toArray s m_s1_Model_layStates.cells m_s1_Model_layStates.slots A) (F0 m 110 ls []) by
            exact key 242 (0) (b62) (f_771) (b64) (b65) (b66) _ _ _ (zI.wk (l' := 0) (h' := 241) zc_0 (by decide)) hb62 hf_771 hb64 (by rw [gf_771]; have _l0 := li_0; omega) (by have _l0 := li_0; intro q hq; omega) (by have _l0 := li_0; intro hq; omega) (by have _l0 := li_0; intro q hq; rw [gf_771] at hq; omega) (zm_upi (zI.wk (l' := 0) (h' := 241) zc_0 (by decide)) (by decide)) hP hD hS (lv_sub hl [0, 1, 2, 3, 4, 5, 6] rfl)
          intro k_957
          induction k_957 with
          | zero =>
            intro y_958 y_959 y_960 y_961 y_962 y_963 H locs ls hy_958 hy_959 hy_960 hy_961 hli_964 hli_965 hli_966 hli_967 hmk_957 hP hD hS hl
            exact (zm_up0 hy_958 hmk_957).elim
          | succ k_957 ihk_957 =>
            intro y_958 y_959 y_960 y_961 y_962 y_963 H locs ls hy_958 hy_959 hy_960 hy_961 hli_964 hli_965 hli_966 hli_967 hmk_957 hP hD hS hl
            refine lv_iload hx hb d_Model_layStates_110 (lv_at hl 0 rfl) ?_
            refine lv_aload_n hx hb d_Model_layStates_112 rfl (lv_at hl 3 rfl) ?_
            refine va_get (D := G.1) (ci := 12) (v := .ref b18) (C := R_Model) (T := F_Model) (N := 54) hx hb hts i_Model hown hK hP 9 rfl rfl 15 (by decide) (hts _ q1124) (fun _ h9 => h9) rfl d_Model_layStates_113 ?_
            refine lv_iload_n hx hb d_Model_layStates_116 rfl (lv_at hl 4 rfl) ?_
            refine va_iald hx hb hK hP 0 0 rfl rfl (i := 0) (z_in rfl) d_Model_layStates_117 ?_
            refine lv_topi (fun v_968 ev_968 => ?_)
            have hv_968 : zI v_968 0 241 := (hb58 _).eq ev_968
            refine lv_icmp_ge (tgt := 258) hx hb d_Model_layStates_118 (by decide) (fun hc_969 => ?_) (fun hc_969 => ?_)
            · have _nhc_969 := hc_969
              have ni_970 := (fa_le _ _).mp hc_969
              exact z_vret hx hb hr hlocks (hP.sub [9, 10, 0, 1, 2, 3, 4, 5, 6, 7, 8] rfl) (hD.sub [9, 10, 0, 1, 2, 3, 4, 5, 6, 7, 8] (by decide) rfl) hS (Nat.le_of_ble_eq_true rfl) (Nat.le_of_ble_eq_true rfl) d_Model_layStates_258 ⟨y_763, y_764, y_959, y_960, y_961, y_962, y_963, rfl, rfl, hy_764, hy_959, hy_960, hy_961, (by have h6 : v_968.toInt = (b58 (0 : Int32).toNatClampNeg).toInt := (by rw [ev_968]); intro h1 h2 h3 p hp; exact hli_965 p (by omega)), (by have h6 : v_968.toInt = (b58 (0 : Int32).toNatClampNeg).toInt := (by rw [ev_968]); intro h1 h2 h3; exact hli_966 (by omega)), hli_967⟩
            · have _nhc_969 := hc_969
              have ni_971 := (fa_lt _ _).mp (zi_nle hc_969)
              have hv_972 : zI y_958 0 240 := zI.lt_l hy_958 hv_968 (zi_nle hc_969) (by decide)
              have hv_973 : zI v_968 1 241 := zI.lt_r hy_958 hv_968 (zi_nle hc_969) (by decide)
              refine lv_iload hx hb d_Model_layStates_121 (lv_at hl 1 rfl) ?_
              refine lv_if_eq (tgt := 258) hx hb d_Model_layStates_123 (by decide) (fun hc => absurd hc (by decide +kernel)) (fun _ => ?_)
              refine lv_iconst (v := 0) hx hb d_Model_layStates_126 (by decide) ?_
              refine lv_istore (lv' := [(7, .int 0), (6, .int y_958), (5, .int 1), (4, .int 0), (0, .ref b0), (1, .int 0), (2, .int b1), (3, .int b2)]) hx hb d_Model_layStates_127 hl (by decide) rfl (fun ls hl => ?_)
              suffices key : ∀ (k_1046 : Nat) (y_1047 : Int32) (H : Heap) (locs : List Loc) (ls : Array Slot), (zI y_1047 0 240) → ((y_1047 : Int32).toInt ≤ (y_960 (0 : Int32).toNatClampNeg).toInt) → (240 : Int) - y_1047.toInt < (k_1046 : Int) → va_P G.1 classes [(b18, .inl (G.2 0, 2, .inl b58)), (b20, .inl (G.2 0, 520, .inl b59)), (b21, .inl (G.2 0, 9640, .inl y_763)), (b22, .inl (G.2 0, 482, .inl y_764)), (b23, .inl (G.2 0, 482, .inl y_959)), (b24, .inl (G.2 0, 2, .inl y_960)), (b25, .inl (G.2 0, 482, .inl y_961)), (b26, .inl (G.2 0, 482, .inl y_962)), (b27, .inl (G.2 0, 482, .inl y_963)), (b0, .inr (12, [.int b3, .ref b4, .ref b5, .ref b6, .ref b7, .int b8, .ref b9, .int b10, .int b11, .int b12, .int b13, .ref b14, .ref b15, .ref b16, .int b17, .ref b18, .ref b19, .ref b20, .ref b21, .ref b22, .ref b23, .ref b24, .ref b25, .ref b26, .ref b27, .ref b28, .ref b29, .int b30, .ref b31, .ref b32, .int b33, .int b34, .int b35, .int b36, .ref b37, .ref b38, .ref b39, .ref b40, .ref b41, .ref b42, .ref b43, .int b44, .ref b45, .ref b46, .int b47, .ref b48, .ref b49, .ref b50, .ref b51, .ref b52, .int b53, .ref b54, .ref b55, .ref b56])), (b4, .inl (G.2 0, 503, .inl b57))] H → va_D A [(b18, .inl (G.2 0, 2, .inl b58)), (b20, .inl (G.2 0, 520, .inl b59)), (b21, .inl (G.2 0, 9640, .inl y_763)), (b22, .inl (G.2 0, 482, .inl y_764)), (b23, .inl (G.2 0, 482, .inl y_959)), (b24, .inl (G.2 0, 2, .inl y_960)), (b25, .inl (G.2 0, 482, .inl y_961)), (b26, .inl (G.2 0, 482, .inl y_962)), (b27, .inl (G.2 0, 482, .inl y_963)), (b0, .inr (12, [.int b3, .ref b4, .ref b5, .ref b6, .ref b7, .int b8, .ref b9, .int b10, .int b11, .int b12, .int b13, .ref b14, .ref b15, .ref b16, .int b17, .ref b18, .ref b19, .ref b20, .ref b21, .ref b22, .ref b23, .ref b24, .ref b25, .ref b26, .ref b27, .ref b28, .ref b29, .int b30, .ref b31, .ref b32, .int b33, .int b34, .int b35, .int b36, .ref b37, .ref b38, .ref b39, .ref b40, .ref b41, .ref b42, .ref b43, .int b44, .ref b45, .ref b46, .int b47, .ref b48, .ref b49, .ref b50, .ref b51, .ref b52, .int b53, .ref b54, .ref b55, .ref b56])), (b4, .inl (G.2 0, 503, .inl b57))] → va_S A s.heap H locs → lv_has ls 8 [(7, .int y_1047), (6, .int y_958), (5, .int 1), (4, .int 0), (0, .ref b0), (1, .int 0), (2, .int b1), (3, .int b2)] → W p l e m_s1_Model_layStates s m ([.ref b0, .int 0, .int b1, .int b2] : List Value).toArray below meth c H locs 0 0 (MQ below (zQ G (fun v w => ∃ (e0 : Nat → Int32), ∃ (e1 : Nat → Int32), ∃ (e2 : Nat → Int32), ∃ (e3 : Nat → Int32), ∃ (e4 : Nat → Int32), ∃ (e5 : Nat → Int32), ∃ (e6 : Nat → Int32), v = none ∧ w = [(b0, .inr (12, [.int b3, .ref b4, .ref b5, .ref b6, .ref b7, .int b8, .ref b9, .int b10, .int b11, .int b12, .int b13, .ref b14, .ref b15, .ref b16, .int b17, .ref b18, .ref b19, .ref b20, .ref b21, .ref b22, .ref b23, .ref b24, .ref b25, .ref b26, .ref b27, .ref b28, .ref b29, .int b30, .ref b31, .ref b32, .int b33, .int b34, .int b35, .int b36, .ref b37, .ref b38, .ref b39, .ref b40, .ref b41, .ref b42, .ref b43, .int b44, .ref b45, .ref b46, .int b47, .ref b48, .ref b49, .ref b50, .ref b51, .ref b52, .int b53, .ref b54, .ref b55, .ref b56])), (b4, .inl (G.2 0, 503, .inl b57)), (b18, .inl (G.2 0, 2, .inl b58)), (b20, .inl (G.2 0, 520, .inl b59)), (b21, .inl (G.2 0, 9640, .inl e0)), (b22, .inl (G.2 0, 482, .inl e1)), (b23, .inl (G.2 0, 482, .inl e2)), (b24, .inl (G.2 0, 2, .inl e3)), (b25, .inl (G.2 0, 482, .inl e4)), (b26, .inl (G.2 0, 482, .inl e5)), (b27, .inl (G.2 0, 482, .inl e6))] ∧ (zqa qC e1) ∧ (zR e2 0 240) ∧ (zR e3 0 241) ∧ (zR e4 0 240) ∧ ((b2 : Int32).toInt = -1 → 1 ≤ (b57 (0 : Int32).toNatClampNeg).toInt → 1 ≤ (b58 (0 : Int32).toNatClampNeg).toInt → ∀ p : Nat, (p : Int) < (b58 (0 : Int32).toNatClampNeg).toInt → (e2 p).toInt < (e3 (0 : Int32).toNatClampNeg).toInt) ∧ ((b2 : Int32).toInt = -1 → 1 ≤ (b57 (0 : Int32).toNatClampNeg).toInt → 1 ≤ (b58 (0 : Int32).toNatClampNeg).toInt → (e2 0).toInt = 0) ∧ (∀ s : Nat, (s : Int) < (e3 (0 : Int32).toNatClampNeg).toInt → (e6 s).toInt = 0)) A) ([.ref b0, .int 0, .int b1, .int b2] : List Value).toArray s m_s1_Model_layStates.cells m_s1_Model_layStates.slots A) (F0 m 129 ls []) by
                exact key 241 (0) _ _ _ (zI.wk (l' := 0) (h' := 240) zc_0 (by decide)) (by have _l0 := li_0; have h9 := hy_960 (0 : Int32).toNatClampNeg; omega) (zm_upi (zI.wk (l' := 0) (h' := 240) zc_0 (by decide)) (by decide)) hP hD hS (lv_sub hl [0, 1, 2, 3, 4, 5, 6, 7] rfl)
              intro k_1046
              induction k_1046 with
              | zero =>
                intro y_1047 H locs ls hy_1047 hli_1048 hmk_1046 hP hD hS hl
                exact (zm_up0 hy_1047 hmk_1046).elim
              | succ k_1046 ihk_1046 =>
                intro y_1047 H locs ls hy_1047 hli_1048 hmk_1046 hP hD hS hl
                refine lv_iload hx hb d_Model_layStates_129 (lv_at hl 0 rfl) ?_
                refine lv_aload_n hx hb d_Model_layStates_131 rfl (lv_at hl 4 rfl) ?_
                refine va_get (D := G.1) (ci := 12) (v := .ref b24) (C := R_Model) (T := F_Model) (N := 54) hx hb hts i_Model hown hK hP 9 rfl rfl 21 (by decide) (hts _ q1130) (fun _ h9 => h9) rfl d_Model_layStates_132 ?_
                refine lv_iload_n hx hb d_Model_layStates_135 rfl (lv_at hl 5 rfl) ?_
                refine va_iald hx hb hK hP 5 0 rfl rfl (i := 0) (z_in rfl) d_Model_layStates_136 ?_
                refine lv_topi (fun v_1049 ev_1049 => ?_)
                have hv_1049 : zI v_1049 0 241 := (hy_960 _).eq ev_1049
                have hv_1050 : zI v_1049 0 240 := ⟨hv_1049.1, by rw [ev_1049]; omega⟩
                have hsmv_1049 : v_1049.toInt ≤ y_958.toInt := by rw [ev_1049]; omega
                refine lv_icmp_ge (tgt := 171) hx hb d_Model_layStates_137 (by decide) (fun hc_1051 => ?_) (fun hc_1051 => ?_)
                · have _nhc_1051 := hc_1051
                  have ni_1052 := (fa_le _ _).mp hc_1051
                  refine lv_iload hx hb d_Model_layStates_171 (lv_at hl 0 rfl) ?_
                  refine lv_aload_n hx hb d_Model_layStates_173 rfl (lv_at hl 4 rfl) ?_
                  refine va_get (D := G.1) (ci := 12) (v := .ref b24) (C := R_Model) (T := F_Model) (N := 54) hx hb hts i_Model hown hK hP 9 rfl rfl 21 (by decide) (hts _ q1130) (fun _ h9 => h9) rfl d_Model_layStates_174 ?_
                  refine lv_iload_n hx hb d_Model_layStates_177 rfl (lv_at hl 5 rfl) ?_
                  refine va_iald hx hb hK hP 5 0 rfl rfl (i := 0) (z_in rfl) d_Model_layStates_178 ?_
                  refine lv_topi (fun v_1053 ev_1053 => ?_)
                  obtain rfl : v_1049 = v_1053 := ev_1049.trans ev_1053.symm
                  refine lv_icmp_ne (tgt := 226) hx hb d_Model_layStates_179 (by decide) (fun hc_1054 => ?_) (fun hc_1054 => ?_)
                  · have _nhc_1054 := hc_1054
                    have ni_1055 : ¬ (y_1047 : Int32).toInt = (v_1049 : Int32).toInt := fun z => hc_1054 ((fa_eq _ _).mpr z)
                    refine lv_aload_n hx hb d_Model_layStates_226 rfl (lv_at hl 4 rfl) ?_
                    refine va_get (D := G.1) (ci := 12) (v := .ref b26) (C := R_Model) (T := F_Model) (N := 54) hx hb hts i_Model hown hK hP 9 rfl rfl 23 (by decide) (hts _ q1132) (fun _ h9 => h9) rfl d_Model_layStates_227 ?_
                    refine lv_iload hx hb d_Model_layStates_230 (lv_at hl 3 rfl) ?_
                    refine lv_iload hx hb d_Model_layStates_232 (lv_at hl 0 rfl) ?_
                    refine lv_iadd hx hb d_Model_layStates_234 ?_
                    refine lv_topi (fun v_1056 ev_1056 => ?_)
                    obtain ⟨qv_1056, hv_1056⟩ := zI_add (l := 0) (h := 240) zc_0 hy_1047 ev_1056 (by decide)
                    rw [li_0] at qv_1056
                    refine lv_dup2_11 hx hb d_Model_layStates_235 rfl rfl ?_
                    refine va_iald hx hb hK hP 7 0 rfl rfl (zI.inn hv_1056 (by decide)) d_Model_layStates_236 ?_
                    refine lv_topi (fun v_1057 ev_1057 => ?_)
                    refine lv_iconst (v := 1) hx hb d_Model_layStates_237 (by decide) ?_
                    refine lv_iadd hx hb d_Model_layStates_238 ?_
                    refine lv_topi (fun v_1058 ev_1058 => ?_)
                    refine va_iast hx hb hK hP hD hS 7 0 rfl rfl (zI.inn hv_1056 (by decide)) d_Model_layStates_239 (fun H locs hP hD hS => ?_)
                    obtain ⟨f_1059, gf_1059, uf_1059, hP, hD⟩ := z_newFu 7 hP hD rfl
                    have hP : va_P G.1 classes [(b18, .inl (G.2 0, 2, .inl b58)), (b20, .inl (G.2 0, 520, .inl b59)), (b21, .inl (G.2 0, 9640, .inl y_763)), (b22, .inl (G.2 0, 482, .inl y_764)), (b23, .inl (G.2 0, 482, .inl y_959)), (b24, .inl (G.2 0, 2, .inl y_960)), (b25, .inl (G.2 0, 482, .inl y_961)), (b26, .inl (G.2 0, 482, .inl f_1059)), (b27, .inl (G.2 0, 482, .inl y_963)), (b0, .inr (12, [.int b3, .ref b4, .ref b5, .ref b6, .ref b7, .int b8, .ref b9, .int b10, .int b11, .int b12, .int b13, .ref b14, .ref b15, .ref b16, .int b17, .ref b18, .ref b19, .ref b20, .ref b21, .ref b22, .ref b23, .ref b24, .ref b25, .ref b26, .ref b27, .ref b28, .ref b29, .int b30, .ref b31, .ref b32, .int b33, .int b34, .int b35, .int b36, .ref b37, .ref b38, .ref b39, .ref b40, .ref b41, .ref b42, .ref b43, .int b44, .ref b45, .ref b46, .int b47, .ref b48, .ref b49, .ref b50, .ref b51, .ref b52, .int b53, .ref b54, .ref b55, .ref b56])), (b4, .inl (G.2 0, 503, .inl b57))] H := hP
                    have hD := z_tie hP hD rfl
                    refine lv_aload_n hx hb d_Model_layStates_240 rfl (lv_at hl 4 rfl) ?_
                    refine va_get (D := G.1) (ci := 12) (v := .ref b23) (C := R_Model) (T := F_Model) (N := 54) hx hb hts i_Model hown hK hP 9 rfl rfl 20 (by decide) (hts _ q1129) (fun _ h9 => h9) rfl d_Model_layStates_241 ?_
                    refine lv_iload hx hb d_Model_layStates_244 (lv_at hl 3 rfl) ?_
                    refine lv_iload hx hb d_Model_layStates_246 (lv_at hl 1 rfl) ?_
                    refine lv_iadd hx hb d_Model_layStates_248 ?_
                    refine lv_topi (fun v_1060 ev_1060 => ?_)
                    obtain ⟨qv_1060, hv_1060⟩ := zI_add (l := 0) (h := 240) zc_0 hv_972 ev_1060 (by decide)
                    rw [li_0] at qv_1060
                    refine lv_iload hx hb d_Model_layStates_249 (lv_at hl 0 rfl) ?_
                    refine va_iast hx hb hK hP hD hS 4 0 rfl rfl (zI.inn hv_1060 (by decide)) d_Model_layStates_251 (fun H locs hP hD hS => ?_)
                    obtain ⟨f_1061, hf_1061, gf_1061, uf_1061, hP, hD⟩ := z_newfu 4 hP hD rfl hy_959 hy_1047
                    have hP : va_P G.1 classes [(b18, .inl (G.2 0, 2, .inl b58)), (b20, .inl (G.2 0, 520, .inl b59)), (b21, .inl (G.2 0, 9640, .inl y_763)), (b22, .inl (G.2 0, 482, .inl y_764)), (b23, .inl (G.2 0, 482, .inl f_1061)), (b24, .inl (G.2 0, 2, .inl y_960)), (b25, .inl (G.2 0, 482, .inl y_961)), (b26, .inl (G.2 0, 482, .inl f_1059)), (b27, .inl (G.2 0, 482, .inl y_963)), (b0, .inr (12, [.int b3, .ref b4, .ref b5, .ref b6, .ref b7, .int b8, .ref b9, .int b10, .int b11, .int b12, .int b13, .ref b14, .ref b15, .ref b16, .int b17, .ref b18, .ref b19, .ref b20, .ref b21, .ref b22, .ref b23, .ref b24, .ref b25, .ref b26, .ref b27, .ref b28, .ref b29, .int b30, .ref b31, .ref b32, .int b33, .int b34, .int b35, .int b36, .ref b37, .ref b38, .ref b39, .ref b40, .ref b41, .ref b42, .ref b43, .int b44, .ref b45, .ref b46, .int b47, .ref b48, .ref b49, .ref b50, .ref b51, .ref b52, .int b53, .ref b54, .ref b55, .ref b56])), (b4, .inl (G.2 0, 503, .inl b57))] H := hP
                    have hD := z_tie hP hD rfl
                    obtain ⟨v_1062, ev_1062⟩ : ∃ z : Int32, z = y_958 + 1 := ⟨_, rfl⟩
                    obtain ⟨qv_1062, hv_1062⟩ := zI_add (l := 1) (h := 241) hv_972 zc_1 ev_1062 (by decide)
                    rw [li_1] at qv_1062
                    refine lv_iinc (v := v_1062) (lv' := [(6, .int v_1062), (7, .int y_1047), (5, .int 1), (4, .int 0), (0, .ref b0), (1, .int 0), (2, .int b1), (3, .int b2)]) hx hb d_Model_layStates_252 hl (k := 1) rfl (by rw [ev_1062]; rfl) (by decide) rfl (fun ls hl => ?_)
                    refine lv_goto (tgt := 110) hx hb d_Model_layStates_255 (by decide) ?_
                    exact ihk_957 (v_1062) (f_1061) (y_960) (y_961) (f_1059) (y_963) _ _ _ (zI.wk (l' := 0) (h' := 241) hv_1062 (by decide)) hf_1061 hy_960 hy_961 (by omega) (by have _l0 := li_0; have _l1 := li_1; have h8 : v_1049.toInt = (y_960 (0 : Int32).toNatClampNeg).toInt := (by rw [ev_1049]); have p9 := z_pl hv_1060 (by decide); have w0 := hli_964; have w1 := hli_1048; intro q hq; rw [uf_1061, z_at]; split; omega; have := hli_965 q (by omega); omega) (by have _l0 := li_0; have _l1 := li_1; have h8 : v_1049.toInt = (y_960 (0 : Int32).toNatClampNeg).toInt := (by rw [ev_1049]); have p9 := z_pl hv_1060 (by decide); have w0 := hli_964; have w1 := hli_1048; intro hq; rw [uf_1061, z_at]; split; omega; exact hli_966 (by omega)) hli_967 (zm_up qv_1062 hmk_957 (by decide)) hP hD hS (lv_sub hl [0, 2, 3, 4, 5, 6, 7] rfl)
                  · have _nhc_1054 := hc_1054
                    have ni_1063 := (fa_eq _ _).mp hc_1054
                    refine lv_aload_n hx hb d_Model_layStates_182 rfl (lv_at hl 4 rfl) ?_
                    refine va_get (D := G.1) (ci := 12) (v := .ref b25) (C := R_Model) (T := F_Model) (N := 54) hx hb hts i_Model hown hK hP 9 rfl rfl 22 (by decide) (hts _ q1131) (fun _ h9 => h9) rfl d_Model_layStates_183 ?_
                    refine lv_iload hx hb d_Model_layStates_186 (lv_at hl 3 rfl) ?_
                    refine lv_iload hx hb d_Model_layStates_188 (lv_at hl 0 rfl) ?_
                    refine lv_iadd hx hb d_Model_layStates_190 ?_
                    refine lv_topi (fun v_1064 ev_1064 => ?_)
                    obtain ⟨qv_1064, hv_1064⟩ := zI_add (l := 0) (h := 240) zc_0 hy_1047 ev_1064 (by decide)
                    rw [li_0] at qv_1064
                    refine lv_iload hx hb d_Model_layStates_191 (lv_at hl 1 rfl) ?_
                    refine va_iast hx hb hK hP hD hS 6 0 rfl rfl (zI.inn hv_1064 (by decide)) d_Model_layStates_193 (fun H locs hP hD hS => ?_)
                    obtain ⟨f_1065, hf_1065, gf_1065, uf_1065, hP, hD⟩ := z_newfu 6 hP hD rfl hy_961 hv_972
                    have hP : va_P G.1 classes [(b18, .inl (G.2 0, 2, .inl b58)), (b20, .inl (G.2 0, 520, .inl b59)), (b21, .inl (G.2 0, 9640, .inl y_763)), (b22, .inl (G.2 0, 482, .inl y_764)), (b23, .inl (G.2 0, 482, .inl y_959)), (b24, .inl (G.2 0, 2, .inl y_960)), (b25, .inl (G.2 0, 482, .inl f_1065)), (b26, .inl (G.2 0, 482, .inl y_962)), (b27, .inl (G.2 0, 482, .inl y_963)), (b0, .inr (12, [.int b3, .ref b4, .ref b5, .ref b6, .ref b7, .int b8, .ref b9, .int b10, .int b11, .int b12, .int b13, .ref b14, .ref b15, .ref b16, .int b17, .ref b18, .ref b19, .ref b20, .ref b21, .ref b22, .ref b23, .ref b24, .ref b25, .ref b26, .ref b27, .ref b28, .ref b29, .int b30, .ref b31, .ref b32, .int b33, .int b34, .int b35, .int b36, .ref b37, .ref b38, .ref b39, .ref b40, .ref b41, .ref b42, .ref b43, .int b44, .ref b45, .ref b46, .int b47, .ref b48, .ref b49, .ref b50, .ref b51, .ref b52, .int b53, .ref b54, .ref b55, .ref b56])), (b4, .inl (G.2 0, 503, .inl b57))] H := hP
                    have hD := z_tie hP hD rfl
                    refine lv_aload_n hx hb d_Model_layStates_194 rfl (lv_at hl 4 rfl) ?_
                    refine va_get (D := G.1) (ci := 12) (v := .ref b26) (C := R_Model) (T := F_Model) (N := 54) hx hb hts i_Model hown hK hP 9 rfl rfl 23 (by decide) (hts _ q1132) (fun _ h9 => h9) rfl d_Model_layStates_195 ?_
                    refine lv_iload hx hb d_Model_layStates_198 (lv_at hl 3 rfl) ?_
                    refine lv_iload hx hb d_Model_layStates_200 (lv_at hl 0 rfl) ?_
                    refine lv_iadd hx hb d_Model_layStates_202 ?_
                    refine lv_topi (fun v_1066 ev_1066 => ?_)
                    obtain rfl : v_1064 = v_1066 := ev_1064.trans ev_1066.symm
                    refine lv_iconst (v := 0) hx hb d_Model_layStates_203 (by decide) ?_
                    refine va_iast hx hb hK hP hD hS 7 0 rfl rfl (zI.inn hv_1064 (by decide)) d_Model_layStates_204 (fun H locs hP hD hS => ?_)
                    obtain ⟨f_1067, gf_1067, uf_1067, hP, hD⟩ := z_newFu 7 hP hD rfl
                    have hP : va_P G.1 classes [(b18, .inl (G.2 0, 2, .inl b58)), (b20, .inl (G.2 0, 520, .inl b59)), (b21, .inl (G.2 0, 9640, .inl y_763)), (b22, .inl (G.2 0, 482, .inl y_764)), (b23, .inl (G.2 0, 482, .inl y_959)), (b24, .inl (G.2 0, 2, .inl y_960)), (b25, .inl (G.2 0, 482, .inl f_1065)), (b26, .inl (G.2 0, 482, .inl f_1067)), (b27, .inl (G.2 0, 482, .inl y_963)), (b0, .inr (12, [.int b3, .ref b4, .ref b5, .ref b6, .ref b7, .int b8, .ref b9, .int b10, .int b11, .int b12, .int b13, .ref b14, .ref b15, .ref b16, .int b17, .ref b18, .ref b19, .ref b20, .ref b21, .ref b22, .ref b23, .ref b24, .ref b25, .ref b26, .ref b27, .ref b28, .ref b29, .int b30, .ref b31, .ref b32, .int b33, .int b34, .int b35, .int b36, .ref b37, .ref b38, .ref b39, .ref b40, .ref b41, .ref b42, .ref b43, .int b44, .ref b45, .ref b46, .int b47, .ref b48, .ref b49, .ref b50, .ref b51, .ref b52, .int b53, .ref b54, .ref b55, .ref b56])), (b4, .inl (G.2 0, 503, .inl b57))] H := hP
                    have hD := z_tie hP hD rfl
                    refine lv_aload_n hx hb d_Model_layStates_205 rfl (lv_at hl 4 rfl) ?_
                    refine va_get (D := G.1) (ci := 12) (v := .ref b27) (C := R_Model) (T := F_Model) (N := 54) hx hb hts i_Model hown hK hP 9 rfl rfl 24 (by decide) (hts _ q1133) (fun _ h9 => h9) rfl d_Model_layStates_206 ?_
                    refine lv_iload hx hb d_Model_layStates_209 (lv_at hl 3 rfl) ?_
                    refine lv_iload hx hb d_Model_layStates_211 (lv_at hl 0 rfl) ?_
                    refine lv_iadd hx hb d_Model_layStates_213 ?_
                    refine lv_topi (fun v_1068 ev_1068 => ?_)
                    obtain rfl : v_1064 = v_1068 := ev_1064.trans ev_1068.symm
                    refine lv_iconst (v := 0) hx hb d_Model_layStates_214 (by decide) ?_
                    refine va_iast hx hb hK hP hD hS 8 0 rfl rfl (zI.inn hv_1064 (by decide)) d_Model_layStates_215 (fun H locs hP hD hS => ?_)
                    obtain ⟨f_1069, gf_1069, uf_1069, hP, hD⟩ := z_newFu 8 hP hD rfl
                    have hP : va_P G.1 classes [(b18, .inl (G.2 0, 2, .inl b58)), (b20, .inl (G.2 0, 520, .inl b59)), (b21, .inl (G.2 0, 9640, .inl y_763)), (b22, .inl (G.2 0, 482, .inl y_764)), (b23, .inl (G.2 0, 482, .inl y_959)), (b24, .inl (G.2 0, 2, .inl y_960)), (b25, .inl (G.2 0, 482, .inl f_1065)), (b26, .inl (G.2 0, 482, .inl f_1067)), (b27, .inl (G.2 0, 482, .inl f_1069)), (b0, .inr (12, [.int b3, .ref b4, .ref b5, .ref b6, .ref b7, .int b8, .ref b9, .int b10, .int b11, .int b12, .int b13, .ref b14, .ref b15, .ref b16, .int b17, .ref b18, .ref b19, .ref b20, .ref b21, .ref b22, .ref b23, .ref b24, .ref b25, .ref b26, .ref b27, .ref b28, .ref b29, .int b30, .ref b31, .ref b32, .int b33, .int b34, .int b35, .int b36, .ref b37, .ref b38, .ref b39, .ref b40, .ref b41, .ref b42, .ref b43, .int b44, .ref b45, .ref b46, .int b47, .ref b48, .ref b49, .ref b50, .ref b51, .ref b52, .int b53, .ref b54, .ref b55, .ref b56])), (b4, .inl (G.2 0, 503, .inl b57))] H := hP
                    have hD := z_tie hP hD rfl
                    refine lv_aload_n hx hb d_Model_layStates_216 rfl (lv_at hl 4 rfl) ?_
                    refine va_get (D := G.1) (ci := 12) (v := .ref b24) (C := R_Model) (T := F_Model) (N := 54) hx hb hts i_Model hown hK hP 9 rfl rfl 21 (by decide) (hts _ q1130) (fun _ h9 => h9) rfl d_Model_layStates_217 ?_
                    refine lv_iload_n hx hb d_Model_layStates_220 rfl (lv_at hl 5 rfl) ?_
                    refine lv_dup2_11 hx hb d_Model_layStates_221 rfl rfl ?_
                    refine va_iald hx hb hK hP 5 0 rfl rfl (i := 0) (z_in rfl) d_Model_layStates_222 ?_
                    refine lv_topi (fun v_1070 ev_1070 => ?_)
                    obtain rfl : v_1049 = v_1070 := ev_1049.trans ev_1070.symm
                    refine lv_iconst (v := 1) hx hb d_Model_layStates_223 (by decide) ?_
                    refine lv_iadd hx hb d_Model_layStates_224 ?_
                    refine lv_topi (fun v_1071 ev_1071 => ?_)
                    obtain ⟨qv_1071, hv_1071⟩ := zI_add (l := 1) (h := 241) hv_1050 zc_1 ev_1071 (by decide)
                    rw [li_1] at qv_1071
                    refine va_iast hx hb hK hP hD hS 5 0 rfl rfl (i := 0) (z_in rfl) d_Model_layStates_225 (fun H locs hP hD hS => ?_)
                    obtain ⟨f_1072, hf_1072, gf_1072, uf_1072, hP, hD⟩ := z_newfu 5 hP hD rfl hy_960 (zI.wk (l' := 0) (h' := 241) hv_1071 (by decide))
                    have hP : va_P G.1 classes [(b18, .inl (G.2 0, 2, .inl b58)), (b20, .inl (G.2 0, 520, .inl b59)), (b21, .inl (G.2 0, 9640, .inl y_763)), (b22, .inl (G.2 0, 482, .inl y_764)), (b23, .inl (G.2 0, 482, .inl y_959)), (b24, .inl (G.2 0, 2, .inl f_1072)), (b25, .inl (G.2 0, 482, .inl f_1065)), (b26, .inl (G.2 0, 482, .inl f_1067)), (b27, .inl (G.2 0, 482, .inl f_1069)), (b0, .inr (12, [.int b3, .ref b4, .ref b5, .ref b6, .ref b7, .int b8, .ref b9, .int b10, .int b11, .int b12, .int b13, .ref b14, .ref b15, .ref b16, .int b17, .ref b18, .ref b19, .ref b20, .ref b21, .ref b22, .ref b23, .ref b24, .ref b25, .ref b26, .ref b27, .ref b28, .ref b29, .int b30, .ref b31, .ref b32, .int b33, .int b34, .int b35, .int b36, .ref b37, .ref b38, .ref b39, .ref b40, .ref b41, .ref b42, .ref b43, .int b44, .ref b45, .ref b46, .int b47, .ref b48, .ref b49, .ref b50, .ref b51, .ref b52, .int b53, .ref b54, .ref b55, .ref b56])), (b4, .inl (G.2 0, 503, .inl b57))] H := hP
                    have hD := z_tie hP hD rfl
                    refine lv_aload_n hx hb d_Model_layStates_226 rfl (lv_at hl 4 rfl) ?_
                    refine va_get (D := G.1) (ci := 12) (v := .ref b26) (C := R_Model) (T := F_Model) (N := 54) hx hb hts i_Model hown hK hP 9 rfl rfl 23 (by decide) (hts _ q1132) (fun _ h9 => h9) rfl d_Model_layStates_227 ?_
                    refine lv_iload hx hb d_Model_layStates_230 (lv_at hl 3 rfl) ?_
                    refine lv_iload hx hb d_Model_layStates_232 (lv_at hl 0 rfl) ?_
                    refine lv_iadd hx hb d_Model_layStates_234 ?_
                    refine lv_topi (fun v_1073 ev_1073 => ?_)
                    obtain rfl : v_1064 = v_1073 := ev_1064.trans ev_1073.symm
                    refine lv_dup2_11 hx hb d_Model_layStates_235 rfl rfl ?_
                    refine va_iald hx hb hK hP 7 0 rfl rfl (zI.inn hv_1064 (by decide)) d_Model_layStates_236 ?_
                    refine lv_topi (fun v_1074 ev_1074 => ?_)
                    obtain rfl : v_1074 = 0 := ev_1074.trans gf_1067
                    refine lv_iconst (v := 1) hx hb d_Model_layStates_237 (by decide) ?_
                    refine lv_iadd hx hb d_Model_layStates_238 ?_
                    refine z_topi (y := 1) (by decide +kernel) ?_
                    refine va_iast hx hb hK hP hD hS 7 0 rfl rfl (zI.inn hv_1064 (by decide)) d_Model_layStates_239 (fun H locs hP hD hS => ?_)
                    obtain ⟨f_1075, gf_1075, uf_1075, hP, hD⟩ := z_newFu 7 hP hD rfl
                    have hP : va_P G.1 classes [(b18, .inl (G.2 0, 2, .inl b58)), (b20, .inl (G.2 0, 520, .inl b59)), (b21, .inl (G.2 0, 9640, .inl y_763)), (b22, .inl (G.2 0, 482, .inl y_764)), (b23, .inl (G.2 0, 482, .inl y_959)), (b24, .inl (G.2 0, 2, .inl f_1072)), (b25, .inl (G.2 0, 482, .inl f_1065)), (b26, .inl (G.2 0, 482, .inl f_1075)), (b27, .inl (G.2 0, 482, .inl f_1069)), (b0, .inr (12, [.int b3, .ref b4, .ref b5, .ref b6, .ref b7, .int b8, .ref b9, .int b10, .int b11, .int b12, .int b13, .ref b14, .ref b15, .ref b16, .int b17, .ref b18, .ref b19, .ref b20, .ref b21, .ref b22, .ref b23, .ref b24, .ref b25, .ref b26, .ref b27, .ref b28, .ref b29, .int b30, .ref b31, .ref b32, .int b33, .int b34, .int b35, .int b36, .ref b37, .ref b38, .ref b39, .ref b40, .ref b41, .ref b42, .ref b43, .int b44, .ref b45, .ref b46, .int b47, .ref b48, .ref b49, .ref b50, .ref b51, .ref b52, .int b53, .ref b54, .ref b55, .ref b56])), (b4, .inl (G.2 0, 503, .inl b57))] H := hP
                    have hD := z_tie hP hD rfl
                    refine lv_aload_n hx hb d_Model_layStates_240 rfl (lv_at hl 4 rfl) ?_
                    refine va_get (D := G.1) (ci := 12) (v := .ref b23) (C := R_Model) (T := F_Model) (N := 54) hx hb hts i_Model hown hK hP 9 rfl rfl 20 (by decide) (hts _ q1129) (fun _ h9 => h9) rfl d_Model_layStates_241 ?_
                    refine lv_iload hx hb d_Model_layStates_244 (lv_at hl 3 rfl) ?_
                    refine lv_iload hx hb d_Model_layStates_246 (lv_at hl 1 rfl) ?_
                    refine lv_iadd hx hb d_Model_layStates_248 ?_
                    refine lv_topi (fun v_1076 ev_1076 => ?_)
                    obtain ⟨qv_1076, hv_1076⟩ := zI_add (l := 0) (h := 240) zc_0 hv_972 ev_1076 (by decide)
                    rw [li_0] at qv_1076
                    refine lv_iload hx hb d_Model_layStates_249 (lv_at hl 0 rfl) ?_
                    refine va_iast hx hb hK hP hD hS 4 0 rfl rfl (zI.inn hv_1076 (by decide)) d_Model_layStates_251 (fun H locs hP hD hS => ?_)
                    obtain ⟨f_1077, hf_1077, gf_1077, uf_1077, hP, hD⟩ := z_newfu 4 hP hD rfl hy_959 hy_1047
                    have hP : va_P G.1 classes [(b18, .inl (G.2 0, 2, .inl b58)), (b20, .inl (G.2 0, 520, .inl b59)), (b21, .inl (G.2 0, 9640, .inl y_763)), (b22, .inl (G.2 0, 482, .inl y_764)), (b23, .inl (G.2 0, 482, .inl f_1077)), (b24, .inl (G.2 0, 2, .inl f_1072)), (b25, .inl (G.2 0, 482, .inl f_1065)), (b26, .inl (G.2 0, 482, .inl f_1075)), (b27, .inl (G.2 0, 482, .inl f_1069)), (b0, .inr (12, [.int b3, .ref b4, .ref b5, .ref b6, .ref b7, .int b8, .ref b9, .int b10, .int b11, .int b12, .int b13, .ref b14, .ref b15, .ref b16, .int b17, .ref b18, .ref b19, .ref b20, .ref b21, .ref b22, .ref b23, .ref b24, .ref b25, .ref b26, .ref b27, .ref b28, .ref b29, .int b30, .ref b31, .ref b32, .int b33, .int b34, .int b35, .int b36, .ref b37, .ref b38, .ref b39, .ref b40, .ref b41, .ref b42, .ref b43, .int b44, .ref b45, .ref b46, .int b47, .ref b48, .ref b49, .ref b50, .ref b51, .ref b52, .int b53, .ref b54, .ref b55, .ref b56])), (b4, .inl (G.2 0, 503, .inl b57))] H := hP
                    have hD := z_tie hP hD rfl
                    obtain ⟨v_1078, ev_1078⟩ : ∃ z : Int32, z = y_958 + 1 := ⟨_, rfl⟩
                    obtain ⟨qv_1078, hv_1078⟩ := zI_add (l := 1) (h := 241) hv_972 zc_1 ev_1078 (by decide)
                    rw [li_1] at qv_1078
                    refine lv_iinc (v := v_1078) (lv' := [(6, .int v_1078), (7, .int y_1047), (5, .int 1), (4, .int 0), (0, .ref b0), (1, .int 0), (2, .int b1), (3, .int b2)]) hx hb d_Model_layStates_252 hl (k := 1) rfl (by rw [ev_1078]; rfl) (by decide) rfl (fun ls hl => ?_)
                    refine lv_goto (tgt := 110) hx hb d_Model_layStates_255 (by decide) ?_
                    exact ihk_957 (v_1078) (f_1077) (f_1072) (f_1065) (f_1075) (f_1069) _ _ _ (zI.wk (l' := 0) (h' := 241) hv_1078 (by decide)) hf_1077 hf_1072 hf_1065 (by rw [gf_1072]; omega) (by have _l0 := li_0; have _l1 := li_1; have h8 : v_1049.toInt = (y_960 (0 : Int32).toNatClampNeg).toInt := (by rw [ev_1049]); have h7 := congrArg Int32.toInt gf_1072; have p9 := z_pl hv_1076 (by decide); have w0 := hli_964; have w1 := hli_1048; intro q hq; rw [uf_1077, z_at]; split; omega; have := hli_965 q (by omega); omega) (by have _l0 := li_0; have _l1 := li_1; have h8 : v_1049.toInt = (y_960 (0 : Int32).toNatClampNeg).toInt := (by rw [ev_1049]); have h7 := congrArg Int32.toInt gf_1072; have p9 := z_pl hv_1076 (by decide); have w0 := hli_964; have w1 := hli_1048; intro hq; rw [uf_1077, z_at]; split; omega; exact hli_966 (by omega)) (by have _l0 := li_0; have _l1 := li_1; have h8 : v_1049.toInt = (y_960 (0 : Int32).toNatClampNeg).toInt := (by rw [ev_1049]); have h7 := congrArg Int32.toInt gf_1072; have p9 := z_pl hv_1064 (by decide); have w1 := hli_1048; intro q hq; rw [uf_1069, z_at]; split; exact li_0; exact hli_967 q (by omega)) (zm_up qv_1078 hmk_957 (by decide)) hP hD hS (lv_sub hl [0, 2, 3, 4, 5, 6, 7] rfl)
                · have _nhc_1051 := hc_1051
                  have ni_1079 := (fa_lt _ _).mp (zi_nle hc_1051)
                  have hv_1080 : zI y_1047 0 239 := zI.lt_l hy_1047 hv_1050 (zi_nle hc_1051) (by decide)
                  have hv_1081 : zI v_1049 1 240 := zI.lt_r hy_1047 hv_1050 (zi_nle hc_1051) (by decide)
                  refine lv_aload_n hx hb d_Model_layStates_140 rfl (lv_at hl 4 rfl) ?_
                  refine lv_iload hx hb d_Model_layStates_141 (lv_at hl 3 rfl) ?_
                  refine lv_aload_n hx hb d_Model_layStates_143 rfl (lv_at hl 4 rfl) ?_
                  refine va_get (D := G.1) (ci := 12) (v := .ref b25) (C := R_Model) (T := F_Model) (N := 54) hx hb hts i_Model hown hK hP 9 rfl rfl 22 (by decide) (hts _ q1131) (fun _ h9 => h9) rfl d_Model_layStates_144 ?_
                  refine lv_iload hx hb d_Model_layStates_147 (lv_at hl 3 rfl) ?_
                  refine lv_iload hx hb d_Model_layStates_149 (lv_at hl 0 rfl) ?_
                  refine lv_iadd hx hb d_Model_layStates_151 ?_
                  refine lv_topi (fun v_1082 ev_1082 => ?_)
                  obtain ⟨qv_1082, hv_1082⟩ := zI_add (l := 0) (h := 239) zc_0 hv_1080 ev_1082 (by decide)
                  rw [li_0] at qv_1082
                  refine va_iald hx hb hK hP 6 0 rfl rfl (zI.inn hv_1082 (by decide)) d_Model_layStates_152 ?_
                  refine lv_topi (fun v_1083 ev_1083 => ?_)
                  have hv_1083 : zI v_1083 0 240 := (hy_961 _).eq ev_1083
                  refine lv_iadd hx hb d_Model_layStates_153 ?_
                  refine lv_topi (fun v_1084 ev_1084 => ?_)
                  obtain ⟨qv_1084, hv_1084⟩ := zI_add (l := 0) (h := 240) zc_0 hv_1083 ev_1084 (by decide)
                  rw [li_0] at qv_1084
                  refine lv_iload hx hb d_Model_layStates_154 (lv_at hl 3 rfl) ?_
                  refine lv_iload hx hb d_Model_layStates_156 (lv_at hl 1 rfl) ?_
                  refine lv_iadd hx hb d_Model_layStates_158 ?_
                  refine lv_topi (fun v_1085 ev_1085 => ?_)
                  obtain ⟨qv_1085, hv_1085⟩ := zI_add (l := 0) (h := 240) zc_0 hv_972 ev_1085 (by decide)
                  rw [li_0] at qv_1085
                  refine z_callV (index := 221) (As := [.int v_1084, .int v_1085]) (rest := []) (wr := [(b18, .inl (G.2 0, 2, .inl b58)), (b20, .inl (G.2 0, 520, .inl b59)), (b23, .inl (G.2 0, 482, .inl y_959)), (b24, .inl (G.2 0, 2, .inl y_960)), (b25, .inl (G.2 0, 482, .inl y_961)), (b26, .inl (G.2 0, 482, .inl y_962)), (b27, .inl (G.2 0, 482, .inl y_963)), (b4, .inl (G.2 0, 503, .inl b57))]) Z (s1_Model_areAlike l G (b0) (v_1084) (v_1085) (b3) (b4) (b5) (b6) (b7) (b8) (b9) (b10) (b11) (b12) (b13) (b14) (b15) (b16) (b17) (b18) (b19) (b20) (b21) (b22) (b23) (b24) (b25) (b26) (b27) (b28) (b29) (b30) (b31) (b32) (b33) (b34) (b35) (b36) (b37) (b38) (b39) (b40) (b41) (b42) (b43) (b44) (b45) (b46) (b47) (b48) (b49) (b50) (b51) (b52) (b53) (b54) (b55) (b56) (y_763) (y_764) (zI.wk (l' := 0) (h' := 481) hv_1084 (by decide)) (zI.wk (l' := 0) (h' := 481) hv_1085 (by decide)) hb8 hb10 hb11 hb13 hb17 hb30 hb33 hb44 hb47 hb53 hy_764) hl.1 q1392 q1394 qs64 q14 q1395 ⟨by decide, by decide, by show _ = some 2; decide +kernel⟩ ⟨Nat.le_of_ble_eq_true rfl, Nat.le_of_ble_eq_true rfl⟩ ⟨Nat.le_of_ble_eq_true rfl, Nat.le_of_ble_eq_true rfl⟩ rfl (Nat.le_of_ble_eq_true rfl) d_Model_layStates_159 hP hD hS hA 9 12 rfl rfl rfl [9, 2, 3] [0, 1, 4, 5, 6, 7, 8, 10] rfl rfl rfl rfl (by decide) (fun v w1 H locs hw_1086 hP hD hS => ?_)
                  obtain ⟨x_1087, rfl, rfl, hx_1087⟩ := hw_1086
                  have hP : va_P G.1 classes [(b18, .inl (G.2 0, 2, .inl b58)), (b20, .inl (G.2 0, 520, .inl b59)), (b23, .inl (G.2 0, 482, .inl y_959)), (b24, .inl (G.2 0, 2, .inl y_960)), (b25, .inl (G.2 0, 482, .inl y_961)), (b26, .inl (G.2 0, 482, .inl y_962)), (b27, .inl (G.2 0, 482, .inl y_963)), (b4, .inl (G.2 0, 503, .inl b57)), (b0, .inr (12, [.int b3, .ref b4, .ref b5, .ref b6, .ref b7, .int b8, .ref b9, .int b10, .int b11, .int b12, .int b13, .ref b14, .ref b15, .ref b16, .int b17, .ref b18, .ref b19, .ref b20, .ref b21, .ref b22, .ref b23, .ref b24, .ref b25, .ref b26, .ref b27, .ref b28, .ref b29, .int b30, .ref b31, .ref b32, .int b33, .int b34, .int b35, .int b36, .ref b37, .ref b38, .ref b39, .ref b40, .ref b41, .ref b42, .ref b43, .int b44, .ref b45, .ref b46, .int b47, .ref b48, .ref b49, .ref b50, .ref b51, .ref b52, .int b53, .ref b54, .ref b55, .ref b56])), (b21, .inl (G.2 0, 9640, .inl y_763)), (b22, .inl (G.2 0, 482, .inl y_764))] H := hP
                  have hD := z_tie hP hD rfl
                  refine W.widen (k := 0) (n := 0) (Nat.le_of_ble_eq_true rfl) (Nat.le_of_ble_eq_true rfl) ?_
                  refine lv_if_ne (tgt := 171) hx hb d_Model_layStates_162 (by decide) (fun hc_1088 => ?_) (fun hc_1088 => ?_)
                  · have _nhc_1088 := hc_1088
                    have ni_1089 : ¬ (x_1087 : Int32).toInt = (0 : Int32).toInt := fun z => hc_1088 ((fa_eq _ _).mpr z)
                    simp only [li_0] at ni_1089
                    have hv_1090 : zI x_1087 1 1 := zI.ne_lo hx_1087 zc_0 hc_1088 (by decide)
                    refine lv_iload hx hb d_Model_layStates_171 (lv_at hl 0 rfl) ?_
                    refine lv_aload_n hx hb d_Model_layStates_173 rfl (lv_at hl 4 rfl) ?_
                    refine va_get (D := G.1) (ci := 12) (v := .ref b24) (C := R_Model) (T := F_Model) (N := 54) hx hb hts i_Model hown hK hP 8 rfl rfl 21 (by decide) (hts _ q1130) (fun _ h9 => h9) rfl d_Model_layStates_174 ?_
                    refine lv_iload_n hx hb d_Model_layStates_177 rfl (lv_at hl 5 rfl) ?_
                    refine va_iald hx hb hK hP 3 0 rfl rfl (i := 0) (z_in rfl) d_Model_layStates_178 ?_
                    refine lv_topi (fun v_1091 ev_1091 => ?_)
                    obtain rfl : v_1049 = v_1091 := ev_1049.trans ev_1091.symm
                    refine lv_icmp_ne (tgt := 226) hx hb d_Model_layStates_179 (by decide) (fun hc_1092 => ?_) (fun hc_1092 => ?_)
                    · have _nhc_1092 := hc_1092
                      have ni_1093 : ¬ (y_1047 : Int32).toInt = (v_1049 : Int32).toInt := fun z => hc_1092 ((fa_eq _ _).mpr z)
                      refine lv_aload_n hx hb d_Model_layStates_226 rfl (lv_at hl 4 rfl) ?_
                      refine va_get (D := G.1) (ci := 12) (v := .ref b26) (C := R_Model) (T := F_Model) (N := 54) hx hb hts i_Model hown hK hP 8 rfl rfl 23 (by decide) (hts _ q1132) (fun _ h9 => h9) rfl d_Model_layStates_227 ?_
                      refine lv_iload hx hb d_Model_layStates_230 (lv_at hl 3 rfl) ?_
                      refine lv_iload hx hb d_Model_layStates_232 (lv_at hl 0 rfl) ?_
                      refine lv_iadd hx hb d_Model_layStates_234 ?_
                      refine lv_topi (fun v_1094 ev_1094 => ?_)
                      obtain rfl : v_1082 = v_1094 := ev_1082.trans ev_1094.symm
                      refine lv_dup2_11 hx hb d_Model_layStates_235 rfl rfl ?_
                      refine va_iald hx hb hK hP 5 0 rfl rfl (zI.inn hv_1082 (by decide)) d_Model_layStates_236 ?_
                      refine lv_topi (fun v_1095 ev_1095 => ?_)
                      refine lv_iconst (v := 1) hx hb d_Model_layStates_237 (by decide) ?_
                      refine lv_iadd hx hb d_Model_layStates_238 ?_
                      refine lv_topi (fun v_1096 ev_1096 => ?_)
                      refine va_iast hx hb hK hP hD hS 5 0 rfl rfl (zI.inn hv_1082 (by decide)) d_Model_layStates_239 (fun H locs hP hD hS => ?_)
                      obtain ⟨f_1097, gf_1097, uf_1097, hP, hD⟩ := z_newFu 5 hP hD rfl
                      have hP : va_P G.1 classes [(b18, .inl (G.2 0, 2, .inl b58)), (b20, .inl (G.2 0, 520, .inl b59)), (b23, .inl (G.2 0, 482, .inl y_959)), (b24, .inl (G.2 0, 2, .inl y_960)), (b25, .inl (G.2 0, 482, .inl y_961)), (b26, .inl (G.2 0, 482, .inl f_1097)), (b27, .inl (G.2 0, 482, .inl y_963)), (b4, .inl (G.2 0, 503, .inl b57)), (b0, .inr (12, [.int b3, .ref b4, .ref b5, .ref b6, .ref b7, .int b8, .ref b9, .int b10, .int b11, .int b12, .int b13, .ref b14, .ref b15, .ref b16, .int b17, .ref b18, .ref b19, .ref b20, .ref b21, .ref b22, .ref b23, .ref b24, .ref b25, .ref b26, .ref b27, .ref b28, .ref b29, .int b30, .ref b31, .ref b32, .int b33, .int b34, .int b35, .int b36, .ref b37, .ref b38, .ref b39, .ref b40, .ref b41, .ref b42, .ref b43, .int b44, .ref b45, .ref b46, .int b47, .ref b48, .ref b49, .ref b50, .ref b51, .ref b52, .int b53, .ref b54, .ref b55, .ref b56])), (b21, .inl (G.2 0, 9640, .inl y_763)), (b22, .inl (G.2 0, 482, .inl y_764))] H := hP
                      have hD := z_tie hP hD rfl
                      refine lv_aload_n hx hb d_Model_layStates_240 rfl (lv_at hl 4 rfl) ?_
                      refine va_get (D := G.1) (ci := 12) (v := .ref b23) (C := R_Model) (T := F_Model) (N := 54) hx hb hts i_Model hown hK hP 8 rfl rfl 20 (by decide) (hts _ q1129) (fun _ h9 => h9) rfl d_Model_layStates_241 ?_
                      refine lv_iload hx hb d_Model_layStates_244 (lv_at hl 3 rfl) ?_
                      refine lv_iload hx hb d_Model_layStates_246 (lv_at hl 1 rfl) ?_
                      refine lv_iadd hx hb d_Model_layStates_248 ?_
                      refine lv_topi (fun v_1098 ev_1098 => ?_)
                      obtain rfl : v_1085 = v_1098 := ev_1085.trans ev_1098.symm
                      refine lv_iload hx hb d_Model_layStates_249 (lv_at hl 0 rfl) ?_
                      refine va_iast hx hb hK hP hD hS 2 0 rfl rfl (zI.inn hv_1085 (by decide)) d_Model_layStates_251 (fun H locs hP hD hS => ?_)
                      obtain ⟨f_1099, hf_1099, gf_1099, uf_1099, hP, hD⟩ := z_newfu 2 hP hD rfl hy_959 (zI.wk (l' := 0) (h' := 240) hv_1080 (by decide))
                      have hP : va_P G.1 classes [(b18, .inl (G.2 0, 2, .inl b58)), (b20, .inl (G.2 0, 520, .inl b59)), (b23, .inl (G.2 0, 482, .inl f_1099)), (b24, .inl (G.2 0, 2, .inl y_960)), (b25, .inl (G.2 0, 482, .inl y_961)), (b26, .inl (G.2 0, 482, .inl f_1097)), (b27, .inl (G.2 0, 482, .inl y_963)), (b4, .inl (G.2 0, 503, .inl b57)), (b0, .inr (12, [.int b3, .ref b4, .ref b5, .ref b6, .ref b7, .int b8, .ref b9, .int b10, .int b11, .int b12, .int b13, .ref b14, .ref b15, .ref b16, .int b17, .ref b18, .ref b19, .ref b20, .ref b21, .ref b22, .ref b23, .ref b24, .ref b25, .ref b26, .ref b27, .ref b28, .ref b29, .int b30, .ref b31, .ref b32, .int b33, .int b34, .int b35, .int b36, .ref b37, .ref b38, .ref b39, .ref b40, .ref b41, .ref b42, .ref b43, .int b44, .ref b45, .ref b46, .int b47, .ref b48, .ref b49, .ref b50, .ref b51, .ref b52, .int b53, .ref b54, .ref b55, .ref b56])), (b21, .inl (G.2 0, 9640, .inl y_763)), (b22, .inl (G.2 0, 482, .inl y_764))] H := hP
                      have hD := z_tie hP hD rfl
                      obtain ⟨v_1100, ev_1100⟩ : ∃ z : Int32, z = y_958 + 1 := ⟨_, rfl⟩
                      obtain ⟨qv_1100, hv_1100⟩ := zI_add (l := 1) (h := 241) hv_972 zc_1 ev_1100 (by decide)
                      rw [li_1] at qv_1100
                      refine lv_iinc (v := v_1100) (lv' := [(6, .int v_1100), (7, .int y_1047), (5, .int 1), (4, .int 0), (0, .ref b0), (1, .int 0), (2, .int b1), (3, .int b2)]) hx hb d_Model_layStates_252 hl (k := 1) rfl (by rw [ev_1100]; rfl) (by decide) rfl (fun ls hl => ?_)
                      refine lv_goto (tgt := 110) hx hb d_Model_layStates_255 (by decide) ?_
                      exact ihk_957 (v_1100) (f_1099) (y_960) (y_961) (f_1097) (y_963) _ _ _ (zI.wk (l' := 0) (h' := 241) hv_1100 (by decide)) hf_1099 hy_960 hy_961 (by omega) (by have _l0 := li_0; have _l1 := li_1; have h8 : v_1049.toInt = (y_960 (0 : Int32).toNatClampNeg).toInt := (by rw [ev_1049]); have p9 := z_pl hv_1085 (by decide); have w0 := hli_964; have w1 := hli_1048; intro q hq; rw [uf_1099, z_at]; split; omega; have := hli_965 q (by omega); omega) (by have _l0 := li_0; have _l1 := li_1; have h8 : v_1049.toInt = (y_960 (0 : Int32).toNatClampNeg).toInt := (by rw [ev_1049]); have p9 := z_pl hv_1085 (by decide); have w0 := hli_964; have w1 := hli_1048; intro hq; rw [uf_1099, z_at]; split; omega; exact hli_966 (by omega)) hli_967 (zm_up qv_1100 hmk_957 (by decide)) (hP.sub [0, 1, 9, 10, 2, 3, 4, 5, 6, 8, 7] rfl) (hD.sub [0, 1, 9, 10, 2, 3, 4, 5, 6, 8, 7] (by decide) rfl) hS (lv_sub hl [0, 2, 3, 4, 5, 6, 7] rfl)
                    · have _nhc_1092 := hc_1092
                      have ni_1101 := (fa_eq _ _).mp hc_1092
                      refine lv_aload_n hx hb d_Model_layStates_182 rfl (lv_at hl 4 rfl) ?_
                      refine va_get (D := G.1) (ci := 12) (v := .ref b25) (C := R_Model) (T := F_Model) (N := 54) hx hb hts i_Model hown hK hP 8 rfl rfl 22 (by decide) (hts _ q1131) (fun _ h9 => h9) rfl d_Model_layStates_183 ?_
                      refine lv_iload hx hb d_Model_layStates_186 (lv_at hl 3 rfl) ?_
                      refine lv_iload hx hb d_Model_layStates_188 (lv_at hl 0 rfl) ?_
                      refine lv_iadd hx hb d_Model_layStates_190 ?_
                      refine lv_topi (fun v_1102 ev_1102 => ?_)
                      obtain rfl : v_1082 = v_1102 := ev_1082.trans ev_1102.symm
                      refine lv_iload hx hb d_Model_layStates_191 (lv_at hl 1 rfl) ?_
                      refine va_iast hx hb hK hP hD hS 4 0 rfl rfl (zI.inn hv_1082 (by decide)) d_Model_layStates_193 (fun H locs hP hD hS => ?_)
                      obtain ⟨f_1103, hf_1103, gf_1103, uf_1103, hP, hD⟩ := z_newfu 4 hP hD rfl hy_961 hv_972
                      have hP : va_P G.1 classes [(b18, .inl (G.2 0, 2, .inl b58)), (b20, .inl (G.2 0, 520, .inl b59)), (b23, .inl (G.2 0, 482, .inl y_959)), (b24, .inl (G.2 0, 2, .inl y_960)), (b25, .inl (G.2 0, 482, .inl f_1103)), (b26, .inl (G.2 0, 482, .inl y_962)), (b27, .inl (G.2 0, 482, .inl y_963)), (b4, .inl (G.2 0, 503, .inl b57)), (b0, .inr (12, [.int b3, .ref b4, .ref b5, .ref b6, .ref b7, .int b8, .ref b9, .int b10, .int b11, .int b12, .int b13, .ref b14, .ref b15, .ref b16, .int b17, .ref b18, .ref b19, .ref b20, .ref b21, .ref b22, .ref b23, .ref b24, .ref b25, .ref b26, .ref b27, .ref b28, .ref b29, .int b30, .ref b31, .ref b32, .int b33, .int b34, .int b35, .int b36, .ref b37, .ref b38, .ref b39, .ref b40, .ref b41, .ref b42, .ref b43, .int b44, .ref b45, .ref b46, .int b47, .ref b48, .ref b49, .ref b50, .ref b51, .ref b52, .int b53, .ref b54, .ref b55, .ref b56])), (b21, .inl (G.2 0, 9640, .inl y_763)), (b22, .inl (G.2 0, 482, .inl y_764))] H := hP
                      have hD := z_tie hP hD rfl
                      refine lv_aload_n hx hb d_Model_layStates_194 rfl (lv_at hl 4 rfl) ?_
                      refine va_get (D := G.1) (ci := 12) (v := .ref b26) (C := R_Model) (T := F_Model) (N := 54) hx hb hts i_Model hown hK hP 8 rfl rfl 23 (by decide) (hts _ q1132) (fun _ h9 => h9) rfl d_Model_layStates_195 ?_
                      refine lv_iload hx hb d_Model_layStates_198 (lv_at hl 3 rfl) ?_
                      refine lv_iload hx hb d_Model_layStates_200 (lv_at hl 0 rfl) ?_
                      refine lv_iadd hx hb d_Model_layStates_202 ?_
                      refine lv_topi (fun v_1104 ev_1104 => ?_)
                      obtain rfl : v_1082 = v_1104 := ev_1082.trans ev_1104.symm
                      refine lv_iconst (v := 0) hx hb d_Model_layStates_203 (by decide) ?_
                      refine va_iast hx hb hK hP hD hS 5 0 rfl rfl (zI.inn hv_1082 (by decide)) d_Model_layStates_204 (fun H locs hP hD hS => ?_)
                      obtain ⟨f_1105, gf_1105, uf_1105, hP, hD⟩ := z_newFu 5 hP hD rfl
                      have hP : va_P G.1 classes [(b18, .inl (G.2 0, 2, .inl b58)), (b20, .inl (G.2 0, 520, .inl b59)), (b23, .inl (G.2 0, 482, .inl y_959)), (b24, .inl (G.2 0, 2, .inl y_960)), (b25, .inl (G.2 0, 482, .inl f_1103)), (b26, .inl (G.2 0, 482, .inl f_1105)), (b27, .inl (G.2 0, 482, .inl y_963)), (b4, .inl (G.2 0, 503, .inl b57)), (b0, .inr (12, [.int b3, .ref b4, .ref b5, .ref b6, .ref b7, .int b8, .ref b9, .int b10, .int b11, .int b12, .int b13, .ref b14, .ref b15, .ref b16, .int b17, .ref b18, .ref b19, .ref b20, .ref b21, .ref b22, .ref b23, .ref b24, .ref b25, .ref b26, .ref b27, .ref b28, .ref b29, .int b30, .ref b31, .ref b32, .int b33, .int b34, .int b35, .int b36, .ref b37, .ref b38, .ref b39, .ref b40, .ref b41, .ref b42, .ref b43, .int b44, .ref b45, .ref b46, .int b47, .ref b48, .ref b49, .ref b50, .ref b51, .ref b52, .int b53, .ref b54, .ref b55, .ref b56])), (b21, .inl (G.2 0, 9640, .inl y_763)), (b22, .inl (G.2 0, 482, .inl y_764))] H := hP
                      have hD := z_tie hP hD rfl
                      refine lv_aload_n hx hb d_Model_layStates_205 rfl (lv_at hl 4 rfl) ?_
                      refine va_get (D := G.1) (ci := 12) (v := .ref b27) (C := R_Model) (T := F_Model) (N := 54) hx hb hts i_Model hown hK hP 8 rfl rfl 24 (by decide) (hts _ q1133) (fun _ h9 => h9) rfl d_Model_layStates_206 ?_
                      refine lv_iload hx hb d_Model_layStates_209 (lv_at hl 3 rfl) ?_
                      refine lv_iload hx hb d_Model_layStates_211 (lv_at hl 0 rfl) ?_
                      refine lv_iadd hx hb d_Model_layStates_213 ?_
                      refine lv_topi (fun v_1106 ev_1106 => ?_)
                      obtain rfl : v_1082 = v_1106 := ev_1082.trans ev_1106.symm
                      refine lv_iconst (v := 0) hx hb d_Model_layStates_214 (by decide) ?_
                      refine va_iast hx hb hK hP hD hS 6 0 rfl rfl (zI.inn hv_1082 (by decide)) d_Model_layStates_215 (fun H locs hP hD hS => ?_)
                      obtain ⟨f_1107, gf_1107, uf_1107, hP, hD⟩ := z_newFu 6 hP hD rfl
                      have hP : va_P G.1 classes [(b18, .inl (G.2 0, 2, .inl b58)), (b20, .inl (G.2 0, 520, .inl b59)), (b23, .inl (G.2 0, 482, .inl y_959)), (b24, .inl (G.2 0, 2, .inl y_960)), (b25, .inl (G.2 0, 482, .inl f_1103)), (b26, .inl (G.2 0, 482, .inl f_1105)), (b27, .inl (G.2 0, 482, .inl f_1107)), (b4, .inl (G.2 0, 503, .inl b57)), (b0, .inr (12, [.int b3, .ref b4, .ref b5, .ref b6, .ref b7, .int b8, .ref b9, .int b10, .int b11, .int b12, .int b13, .ref b14, .ref b15, .ref b16, .int b17, .ref b18, .ref b19, .ref b20, .ref b21, .ref b22, .ref b23, .ref b24, .ref b25, .ref b26, .ref b27, .ref b28, .ref b29, .int b30, .ref b31, .ref b32, .int b33, .int b34, .int b35, .int b36, .ref b37, .ref b38, .ref b39, .ref b40, .ref b41, .ref b42, .ref b43, .int b44, .ref b45, .ref b46, .int b47, .ref b48, .ref b49, .ref b50, .ref b51, .ref b52, .int b53, .ref b54, .ref b55, .ref b56])), (b21, .inl (G.2 0, 9640, .inl y_763)), (b22, .inl (G.2 0, 482, .inl y_764))] H := hP
                      have hD := z_tie hP hD rfl
                      refine lv_aload_n hx hb d_Model_layStates_216 rfl (lv_at hl 4 rfl) ?_
                      refine va_get (D := G.1) (ci := 12) (v := .ref b24) (C := R_Model) (T := F_Model) (N := 54) hx hb hts i_Model hown hK hP 8 rfl rfl 21 (by decide) (hts _ q1130) (fun _ h9 => h9) rfl d_Model_layStates_217 ?_
                      refine lv_iload_n hx hb d_Model_layStates_220 rfl (lv_at hl 5 rfl) ?_
                      refine lv_dup2_11 hx hb d_Model_layStates_221 rfl rfl ?_
                      refine va_iald hx hb hK hP 3 0 rfl rfl (i := 0) (z_in rfl) d_Model_layStates_222 ?_
                      refine lv_topi (fun v_1108 ev_1108 => ?_)
                      obtain rfl : v_1049 = v_1108 := ev_1049.trans ev_1108.symm
                      refine lv_iconst (v := 1) hx hb d_Model_layStates_223 (by decide) ?_
                      refine lv_iadd hx hb d_Model_layStates_224 ?_
                      refine lv_topi (fun v_1109 ev_1109 => ?_)
                      obtain ⟨qv_1109, hv_1109⟩ := zI_add (l := 2) (h := 241) hv_1081 zc_1 ev_1109 (by decide)
                      rw [li_1] at qv_1109
                      refine va_iast hx hb hK hP hD hS 3 0 rfl rfl (i := 0) (z_in rfl) d_Model_layStates_225 (fun H locs hP hD hS => ?_)
                      obtain ⟨f_1110, hf_1110, gf_1110, uf_1110, hP, hD⟩ := z_newfu 3 hP hD rfl hy_960 (zI.wk (l' := 0) (h' := 241) hv_1109 (by decide))
                      have hP : va_P G.1 classes [(b18, .inl (G.2 0, 2, .inl b58)), (b20, .inl (G.2 0, 520, .inl b59)), (b23, .inl (G.2 0, 482, .inl y_959)), (b24, .inl (G.2 0, 2, .inl f_1110)), (b25, .inl (G.2 0, 482, .inl f_1103)), (b26, .inl (G.2 0, 482, .inl f_1105)), (b27, .inl (G.2 0, 482, .inl f_1107)), (b4, .inl (G.2 0, 503, .inl b57)), (b0, .inr (12, [.int b3, .ref b4, .ref b5, .ref b6, .ref b7, .int b8, .ref b9, .int b10, .int b11, .int b12, .int b13, .ref b14, .ref b15, .ref b16, .int b17, .ref b18, .ref b19, .ref b20, .ref b21, .ref b22, .ref b23, .ref b24, .ref b25, .ref b26, .ref b27, .ref b28, .ref b29, .int b30, .ref b31, .ref b32, .int b33, .int b34, .int b35, .int b36, .ref b37, .ref b38, .ref b39, .ref b40, .ref b41, .ref b42, .ref b43, .int b44, .ref b45, .ref b46, .int b47, .ref b48, .ref b49, .ref b50, .ref b51, .ref b52, .int b53, .ref b54, .ref b55, .ref b56])), (b21, .inl (G.2 0, 9640, .inl y_763)), (b22, .inl (G.2 0, 482, .inl y_764))] H := hP
                      have hD := z_tie hP hD rfl
                      refine lv_aload_n hx hb d_Model_layStates_226 rfl (lv_at hl 4 rfl) ?_
                      refine va_get (D := G.1) (ci := 12) (v := .ref b26) (C := R_Model) (T := F_Model) (N := 54) hx hb hts i_Model hown hK hP 8 rfl rfl 23 (by decide) (hts _ q1132) (fun _ h9 => h9) rfl d_Model_layStates_227 ?_
                      refine lv_iload hx hb d_Model_layStates_230 (lv_at hl 3 rfl) ?_
                      refine lv_iload hx hb d_Model_layStates_232 (lv_at hl 0 rfl) ?_
                      refine lv_iadd hx hb d_Model_layStates_234 ?_
                      refine lv_topi (fun v_1111 ev_1111 => ?_)
                      obtain rfl : v_1082 = v_1111 := ev_1082.trans ev_1111.symm
                      refine lv_dup2_11 hx hb d_Model_layStates_235 rfl rfl ?_
                      refine va_iald hx hb hK hP 5 0 rfl rfl (zI.inn hv_1082 (by decide)) d_Model_layStates_236 ?_
                      refine lv_topi (fun v_1112 ev_1112 => ?_)
                      obtain rfl : v_1112 = 0 := ev_1112.trans gf_1105
                      refine lv_iconst (v := 1) hx hb d_Model_layStates_237 (by decide) ?_
                      refine lv_iadd hx hb d_Model_layStates_238 ?_
                      refine z_topi (y := 1) (by decide +kernel) ?_
                      refine va_iast hx hb hK hP hD hS 5 0 rfl rfl (zI.inn hv_1082 (by decide)) d_Model_layStates_239 (fun H locs hP hD hS => ?_)
                      obtain ⟨f_1113, gf_1113, uf_1113, hP, hD⟩ := z_newFu 5 hP hD rfl
                      have hP : va_P G.1 classes [(b18, .inl (G.2 0, 2, .inl b58)), (b20, .inl (G.2 0, 520, .inl b59)), (b23, .inl (G.2 0, 482, .inl y_959)), (b24, .inl (G.2 0, 2, .inl f_1110)), (b25, .inl (G.2 0, 482, .inl f_1103)), (b26, .inl (G.2 0, 482, .inl f_1113)), (b27, .inl (G.2 0, 482, .inl f_1107)), (b4, .inl (G.2 0, 503, .inl b57)), (b0, .inr (12, [.int b3, .ref b4, .ref b5, .ref b6, .ref b7, .int b8, .ref b9, .int b10, .int b11, .int b12, .int b13, .ref b14, .ref b15, .ref b16, .int b17, .ref b18, .ref b19, .ref b20, .ref b21, .ref b22, .ref b23, .ref b24, .ref b25, .ref b26, .ref b27, .ref b28, .ref b29, .int b30, .ref b31, .ref b32, .int b33, .int b34, .int b35, .int b36, .ref b37, .ref b38, .ref b39, .ref b40, .ref b41, .ref b42, .ref b43, .int b44, .ref b45, .ref b46, .int b47, .ref b48, .ref b49, .ref b50, .ref b51, .ref b52, .int b53, .ref b54, .ref b55, .ref b56])), (b21, .inl (G.2 0, 9640, .inl y_763)), (b22, .inl (G.2 0, 482, .inl y_764))] H := hP
                      have hD := z_tie hP hD rfl
                      refine lv_aload_n hx hb d_Model_layStates_240 rfl (lv_at hl 4 rfl) ?_
                      refine va_get (D := G.1) (ci := 12) (v := .ref b23) (C := R_Model) (T := F_Model) (N := 54) hx hb hts i_Model hown hK hP 8 rfl rfl 20 (by decide) (hts _ q1129) (fun _ h9 => h9) rfl d_Model_layStates_241 ?_
                      refine lv_iload hx hb d_Model_layStates_244 (lv_at hl 3 rfl) ?_
                      refine lv_iload hx hb d_Model_layStates_246 (lv_at hl 1 rfl) ?_
                      refine lv_iadd hx hb d_Model_layStates_248 ?_
                      refine lv_topi (fun v_1114 ev_1114 => ?_)
                      obtain rfl : v_1085 = v_1114 := ev_1085.trans ev_1114.symm
                      refine lv_iload hx hb d_Model_layStates_249 (lv_at hl 0 rfl) ?_
                      refine va_iast hx hb hK hP hD hS 2 0 rfl rfl (zI.inn hv_1085 (by decide)) d_Model_layStates_251 (fun H locs hP hD hS => ?_)
                      obtain ⟨f_1115, hf_1115, gf_1115, uf_1115, hP, hD⟩ := z_newfu 2 hP hD rfl hy_959 (zI.wk (l' := 0) (h' := 240) hv_1080 (by decide))
                      have hP : va_P G.1 classes [(b18, .inl (G.2 0, 2, .inl b58)), (b20, .inl (G.2 0, 520, .inl b59)), (b23, .inl (G.2 0, 482, .inl f_1115)), (b24, .inl (G.2 0, 2, .inl f_1110)), (b25, .inl (G.2 0, 482, .inl f_1103)), (b26, .inl (G.2 0, 482, .inl f_1113)), (b27, .inl (G.2 0, 482, .inl f_1107)), (b4, .inl (G.2 0, 503, .inl b57)), (b0, .inr (12, [.int b3, .ref b4, .ref b5, .ref b6, .ref b7, .int b8, .ref b9, .int b10, .int b11, .int b12, .int b13, .ref b14, .ref b15, .ref b16, .int b17, .ref b18, .ref b19, .ref b20, .ref b21, .ref b22, .ref b23, .ref b24, .ref b25, .ref b26, .ref b27, .ref b28, .ref b29, .int b30, .ref b31, .ref b32, .int b33, .int b34, .int b35, .int b36, .ref b37, .ref b38, .ref b39, .ref b40, .ref b41, .ref b42, .ref b43, .int b44, .ref b45, .ref b46, .int b47, .ref b48, .ref b49, .ref b50, .ref b51, .ref b52, .int b53, .ref b54, .ref b55, .ref b56])), (b21, .inl (G.2 0, 9640, .inl y_763)), (b22, .inl (G.2 0, 482, .inl y_764))] H := hP
                      have hD := z_tie hP hD rfl
                      obtain ⟨v_1116, ev_1116⟩ : ∃ z : Int32, z = y_958 + 1 := ⟨_, rfl⟩
                      obtain ⟨qv_1116, hv_1116⟩ := zI_add (l := 1) (h := 241) hv_972 zc_1 ev_1116 (by decide)
                      rw [li_1] at qv_1116
                      refine lv_iinc (v := v_1116) (lv' := [(6, .int v_1116), (7, .int y_1047), (5, .int 1), (4, .int 0), (0, .ref b0), (1, .int 0), (2, .int b1), (3, .int b2)]) hx hb d_Model_layStates_252 hl (k := 1) rfl (by rw [ev_1116]; rfl) (by decide) rfl (fun ls hl => ?_)
                      refine lv_goto (tgt := 110) hx hb d_Model_layStates_255 (by decide) ?_
                      exact ihk_957 (v_1116) (f_1115) (f_1110) (f_1103) (f_1113) (f_1107) _ _ _ (zI.wk (l' := 0) (h' := 241) hv_1116 (by decide)) hf_1115 hf_1110 hf_1103 (by rw [gf_1110]; omega) (by have _l0 := li_0; have _l1 := li_1; have h8 : v_1049.toInt = (y_960 (0 : Int32).toNatClampNeg).toInt := (by rw [ev_1049]); have h7 := congrArg Int32.toInt gf_1110; have p9 := z_pl hv_1085 (by decide); have w0 := hli_964; have w1 := hli_1048; intro q hq; rw [uf_1115, z_at]; split; omega; have := hli_965 q (by omega); omega) (by have _l0 := li_0; have _l1 := li_1; have h8 : v_1049.toInt = (y_960 (0 : Int32).toNatClampNeg).toInt := (by rw [ev_1049]); have h7 := congrArg Int32.toInt gf_1110; have p9 := z_pl hv_1085 (by decide); have w0 := hli_964; have w1 := hli_1048; intro hq; rw [uf_1115, z_at]; split; omega; exact hli_966 (by omega)) (by have _l0 := li_0; have _l1 := li_1; have h8 : v_1049.toInt = (y_960 (0 : Int32).toNatClampNeg).toInt := (by rw [ev_1049]); have h7 := congrArg Int32.toInt gf_1110; have p9 := z_pl hv_1082 (by decide); have w1 := hli_1048; intro q hq; rw [uf_1107, z_at]; split; exact li_0; exact hli_967 q (by omega)) (zm_up qv_1116 hmk_957 (by decide)) (hP.sub [0, 1, 9, 10, 2, 3, 4, 5, 6, 8, 7] rfl) (hD.sub [0, 1, 9, 10, 2, 3, 4, 5, 6, 8, 7] (by decide) rfl) hS (lv_sub hl [0, 2, 3, 4, 5, 6, 7] rfl)
                  · have _nhc_1088 := hc_1088
                    have ni_1117 := (fa_eq _ _).mp hc_1088
                    rw [li_0] at ni_1117
                    have hv_1118 : zI x_1087 0 0 := zI.eq_l hx_1087 zc_0 hc_1088
                    obtain ⟨v_1119, ev_1119⟩ : ∃ z : Int32, z = y_1047 + 1 := ⟨_, rfl⟩
                    obtain ⟨qv_1119, hv_1119⟩ := zI_add (l := 1) (h := 240) hv_1080 zc_1 ev_1119 (by decide)
                    rw [li_1] at qv_1119
                    refine lv_iinc (v := v_1119) (lv' := [(7, .int v_1119), (6, .int y_958), (5, .int 1), (4, .int 0), (0, .ref b0), (1, .int 0), (2, .int b1), (3, .int b2)]) hx hb d_Model_layStates_165 hl (k := 0) rfl (by rw [ev_1119]; rfl) (by decide) rfl (fun ls hl => ?_)
                    refine lv_goto (tgt := 129) hx hb d_Model_layStates_168 (by decide) ?_
                    exact ihk_1046 (v_1119) _ _ _ (zI.wk (l' := 0) (h' := 240) hv_1119 (by decide)) (by rw [← ev_1049]; omega) (zm_up qv_1119 hmk_1046 (by decide)) (hP.sub [0, 1, 9, 10, 2, 3, 4, 5, 6, 8, 7] rfl) (hD.sub [0, 1, 9, 10, 2, 3, 4, 5, 6, 8, 7] (by decide) rfl) hS (lv_sub hl [0, 1, 2, 3, 4, 5, 6, 7] rfl)
      · have _nhc_775 := hc_775
        have ni_1120 := (fa_eq _ _).mp hc_775
        rw [li_m1] at ni_1120
        have hv_1121 : zI b2 (-1) (-1) := zI.eq_l hb2 zc_m1 hc_775
        refine lv_iconst (v := 0) hx hb d_Model_layStates_92 (by decide) ?_
        refine lv_goto (tgt := 97) hx hb d_Model_layStates_93 (by decide) ?_
        refine lv_icmp_le (tgt := 104) hx hb d_Model_layStates_97 (by decide) (fun hc_1122 => ?_) (fun hc_1122 => ?_)
        · have _nhc_1122 := hc_1122
          have ni_1123 := (fa_le _ _).mp hc_1122
          rw [li_0] at ni_1123
          have hv_1124 : zI x_773 0 0 := zI.le_l hx_773 zc_0 hc_1122 (by decide)
          refine lv_iconst (v := 0) hx hb d_Model_layStates_104 (by decide) ?_
          refine lv_istore (lv' := [(5, .int 0), (4, .int 0), (0, .ref b0), (1, .int 0), (2, .int b1), (3, .int b2)]) hx hb d_Model_layStates_105 hl (by decide) rfl (fun ls hl => ?_)
          refine lv_iconst (v := 0) hx hb d_Model_layStates_107 (by decide) ?_
          refine lv_istore (lv' := [(6, .int 0), (5, .int 0), (4, .int 0), (0, .ref b0), (1, .int 0), (2, .int b1), (3, .int b2)]) hx hb d_Model_layStates_108 hl (by decide) rfl (fun ls hl => ?_)
          refine lv_iload hx hb d_Model_layStates_110 (lv_at hl 0 rfl) ?_
          refine lv_aload_n hx hb d_Model_layStates_112 rfl (lv_at hl 3 rfl) ?_
          refine va_get (D := G.1) (ci := 12) (v := .ref b18) (C := R_Model) (T := F_Model) (N := 54) hx hb hts i_Model hown hK hP 9 rfl rfl 15 (by decide) (hts _ q1124) (fun _ h9 => h9) rfl d_Model_layStates_113 ?_
          refine lv_iload_n hx hb d_Model_layStates_116 rfl (lv_at hl 4 rfl) ?_
          refine va_iald hx hb hK hP 0 0 rfl rfl (i := 0) (z_in rfl) d_Model_layStates_117 ?_
          refine lv_topi (fun v_1137 ev_1137 => ?_)
          have hv_1137 : zI v_1137 0 241 := (hb58 _).eq ev_1137
          refine lv_icmp_ge (tgt := 258) hx hb d_Model_layStates_118 (by decide) (fun hc_1138 => ?_) (fun hc_1138 => ?_)
          · have _nhc_1138 := hc_1138
            have ni_1139 := (fa_le _ _).mp hc_1138
            rw [li_0] at ni_1139
            have hv_1140 : zI v_1137 0 0 := zI.le_l hv_1137 zc_0 hc_1138 (by decide)
            exact z_vret hx hb hr hlocks (hP.sub [9, 10, 0, 1, 2, 3, 4, 5, 6, 7, 8] rfl) (hD.sub [9, 10, 0, 1, 2, 3, 4, 5, 6, 7, 8] (by decide) rfl) hS (Nat.le_of_ble_eq_true rfl) (Nat.le_of_ble_eq_true rfl) d_Model_layStates_258 ⟨y_763, y_764, b62, f_771, b64, b65, b66, rfl, rfl, hy_764, hb62, hf_771, hb64, (by intro h1 h2 h3; exfalso; have h5 := congrArg Int32.toInt hfx_774; have _l0 := li_0; have _l1 := li_1; have _l2 := li_m1; omega), (by intro h1 h2 h3; exfalso; have h5 := congrArg Int32.toInt hfx_774; have _l0 := li_0; have _l1 := li_1; have _l2 := li_m1; omega), (by have _l0 := li_0; intro q hq; rw [gf_771] at hq; omega)⟩
          · have _nhc_1138 := hc_1138
            have ni_1141 := (fa_lt _ _).mp (zi_nle hc_1138)
            rw [li_0] at ni_1141
            have hv_1142 : zI v_1137 1 241 := zI.lt_r zc_0 hv_1137 (zi_nle hc_1138) (by decide)
            refine lv_iload hx hb d_Model_layStates_121 (lv_at hl 1 rfl) ?_
            refine lv_if_eq (tgt := 258) hx hb d_Model_layStates_123 (by decide) (fun _ => ?_) (fun hc => absurd hc (by decide +kernel))
            exact z_vret hx hb hr hlocks (hP.sub [9, 10, 0, 1, 2, 3, 4, 5, 6, 7, 8] rfl) (hD.sub [9, 10, 0, 1, 2, 3, 4, 5, 6, 7, 8] (by decide) rfl) hS (Nat.le_of_ble_eq_true rfl) (Nat.le_of_ble_eq_true rfl) d_Model_layStates_258 ⟨y_763, y_764, b62, f_771, b64, b65, b66, rfl, rfl, hy_764, hb62, hf_771, hb64, (by intro h1 h2 h3; exfalso; have h5 := congrArg Int32.toInt hfx_774; have _l0 := li_0; have _l1 := li_1; have _l2 := li_m1; omega), (by intro h1 h2 h3; exfalso; have h5 := congrArg Int32.toInt hfx_774; have _l0 := li_0; have _l1 := li_1; have _l2 := li_m1; omega), (by have _l0 := li_0; intro q hq; rw [gf_771] at hq; omega)⟩
        · have _nhc_1122 := hc_1122
          have ni_1143 := (fa_lt _ _).mp (zi_nle hc_1122)
          rw [li_0] at ni_1143
          have hv_1144 : zI x_773 1 20 := zI.lt_r zc_0 hx_773 (zi_nle hc_1122) (by decide)
          refine lv_iconst (v := 1) hx hb d_Model_layStates_100 (by decide) ?_
          refine lv_goto (tgt := 105) hx hb d_Model_layStates_101 (by decide) ?_
          refine lv_istore (lv' := [(5, .int 1), (4, .int 0), (0, .ref b0), (1, .int 0), (2, .int b1), (3, .int b2)]) hx hb d_Model_layStates_105 hl (by decide) rfl (fun ls hl => ?_)
          refine lv_iconst (v := 0) hx hb d_Model_layStates_107 (by decide) ?_
          refine lv_istore (lv' := [(6, .int 0), (5, .int 1), (4, .int 0), (0, .ref b0), (1, .int 0), (2, .int b1), (3, .int b2)]) hx hb d_Model_layStates_108 hl (by decide) rfl (fun ls hl => ?_)
          suffices key : ∀ (k_1301 : Nat) (y_1302 : Int32) (y_1303 : Nat → Int32) (y_1304 : Nat → Int32) (y_1305 : Nat → Int32) (y_1306 : Nat → Int32) (y_1307 : Nat → Int32) (H : Heap) (locs : List Loc) (ls : Array Slot), (zI y_1302 0 241) → (zR y_1303 0 240) → (zR y_1304 0 241) → (zR y_1305 0 240) → ((y_1304 (0 : Int32).toNatClampNeg).toInt ≤ (y_1302 : Int32).toInt) → (∀ p : Nat, (p : Int) < (y_1302 : Int32).toInt → (y_1303 p).toInt < (y_1304 (0 : Int32).toNatClampNeg).toInt) → (1 ≤ (y_1302 : Int32).toInt → (y_1303 0).toInt = 0) → (∀ s : Nat, (s : Int) < (y_1304 (0 : Int32).toNatClampNeg).toInt → (y_1307 s).toInt = 0) → (241 : Int) - y_1302.toInt < (k_1301 : Int) → va_P G.1 classes [(b18, .inl (G.2 0, 2, .inl b58)), (b20, .inl (G.2 0, 520, .inl b59)), (b21, .inl (G.2 0, 9640, .inl y_763)), (b22, .inl (G.2 0, 482, .inl y_764)), (b23, .inl (G.2 0, 482, .inl y_1303)), (b24, .inl (G.2 0, 2, .inl y_1304)), (b25, .inl (G.2 0, 482, .inl y_1305)), (b26, .inl (G.2 0, 482, .inl y_1306)), (b27, .inl (G.2 0, 482, .inl y_1307)), (b0, .inr (12, [.int b3, .ref b4, .ref b5, .ref b6, .ref b7, .int b8, .ref b9, .int b10, .int b11, .int b12, .int b13, .ref b14, .ref b15, .ref b16, .int b17, .ref b18, .ref b19, .ref b20, .ref b21, .ref b22, .ref b23, .ref b24, .ref b25, .ref b26, .ref b27, .ref b28, .ref b29, .int b30, .ref b31, .ref b32, .int b33, .int b34, .int b35, .int b36, .ref b37, .ref b38, .ref b39, .ref b40, .ref b41, .ref b42, .ref b43, .int b44, .ref b45, .ref b46, .int b47, .ref b48, .ref b49, .ref b50, .ref b51, .ref b52, .int b53, .ref b54, .ref b55, .ref b56])), (b4, .inl (G.2 0, 503, .inl b57))] H → va_D A [(b18, .inl (G.2 0, 2, .inl b58)), (b20, .inl (G.2 0, 520, .inl b59)), (b21, .inl (G.2 0, 9640, .inl y_763)), (b22, .inl (G.2 0, 482, .inl y_764)), (b23, .inl (G.2 0, 482, .inl y_1303)), (b24, .inl (G.2 0, 2, .inl y_1304)), (b25, .inl (G.2 0, 482, .inl y_1305)), (b26, .inl (G.2 0, 482, .inl y_1306)), (b27, .inl (G.2 0, 482, .inl y_1307)), (b0, .inr (12, [.int b3, .ref b4, .ref b5, .ref b6, .ref b7, .int b8, .ref b9, .int b10, .int b11, .int b12, .int b13, .ref b14, .ref b15, .ref b16, .int b17, .ref b18, .ref b19, .ref b20, .ref b21, .ref b22, .ref b23, .ref b24, .ref b25, .ref b26, .ref b27, .ref b28, .ref b29, .int b30, .ref b31, .ref b32, .int b33, .int b34, .int b35, .int b36, .ref b37, .ref b38, .ref b39, .ref b40, .ref b41, .ref b42, .ref b43, .int b44, .ref b45, .ref b46, .int b47, .ref b48, .ref b49, .ref b50, .ref b51, .ref b52, .int b53, .ref b54, .ref b55, .ref b56])), (b4, .inl (G.2 0, 503, .inl b57))] → va_S A s.heap H locs → lv_has ls 8 [(6, .int y_1302), (5, .int 1), (4, .int 0), (0, .ref b0), (1, .int 0), (2, .int b1), (3, .int b2)] → W p l e m_s1_Model_layStates s m ([.ref b0, .int 0, .int b1, .int b2] : List Value).toArray below meth c H locs 0 0 (MQ below (zQ G (fun v w => ∃ (e0 : Nat → Int32), ∃ (e1 : Nat → Int32), ∃ (e2 : Nat → Int32), ∃ (e3 : Nat → Int32), ∃ (e4 : Nat → Int32), ∃ (e5 : Nat → Int32), ∃ (e6 : Nat → Int32), v = none ∧ w = [(b0, .inr (12, [.int b3, .ref b4, .ref b5, .ref b6, .ref b7, .int b8, .ref b9, .int b10, .int b11, .int b12, .int b13, .ref b14, .ref b15, .ref b16, .int b17, .ref b18, .ref b19, .ref b20, .ref b21, .ref b22, .ref b23, .ref b24, .ref b25, .ref b26, .ref b27, .ref b28, .ref b29, .int b30, .ref b31, .ref b32, .int b33, .int b34, .int b35, .int b36, .ref b37, .ref b38, .ref b39, .ref b40, .ref b41, .ref b42, .ref b43, .int b44, .ref b45, .ref b46, .int b47, .ref b48, .ref b49, .ref b50, .ref b51, .ref b52, .int b53, .ref b54, .ref b55, .ref b56])), (b4, .inl (G.2 0, 503, .inl b57)), (b18, .inl (G.2 0, 2, .inl b58)), (b20, .inl (G.2 0, 520, .inl b59)), (b21, .inl (G.2 0, 9640, .inl e0)), (b22, .inl (G.2 0, 482, .inl e1)), (b23, .inl (G.2 0, 482, .inl e2)), (b24, .inl (G.2 0, 2, .inl e3)), (b25, .inl (G.2 0, 482, .inl e4)), (b26, .inl (G.2 0, 482, .inl e5)), (b27, .inl (G.2 0, 482, .inl e6))] ∧ (zqa qC e1) ∧ (zR e2 0 240) ∧ (zR e3 0 241) ∧ (zR e4 0 240) ∧ ((b2 : Int32).toInt = -1 → 1 ≤ (b57 (0 : Int32).toNatClampNeg).toInt → 1 ≤ (b58 (0 : Int32).toNatClampNeg).toInt → ∀ p : Nat, (p : Int) < (b58 (0 : Int32).toNatClampNeg).toInt → (e2 p).toInt < (e3 (0 : Int32).toNatClampNeg).toInt) ∧ ((b2 : Int32).toInt = -1 → 1 ≤ (b57 (0 : Int32).toNatClampNeg).toInt → 1 ≤ (b58 (0 : Int32).toNatClampNeg).toInt → (e2 0).toInt = 0) ∧ (∀ s : Nat, (s : Int) < (e3 (0 : Int32).toNatClampNeg).toInt → (e6 s).toInt = 0)) A) ([.ref b0, .int 0, .int b1, .int b2] : List Value).toArray s m_s1_Model_layStates.cells m_s1_Model_layStates.slots A) (F0 m 110 ls []) by
            exact key 242 (0) (b62) (f_771) (b64) (b65) (b66) _ _ _ (zI.wk (l' := 0) (h' := 241) zc_0 (by decide)) hb62 hf_771 hb64 (by rw [gf_771]; have _l0 := li_0; omega) (by have _l0 := li_0; intro q hq; omega) (by have _l0 := li_0; intro hq; omega) (by have _l0 := li_0; intro q hq; rw [gf_771] at hq; omega) (zm_upi (zI.wk (l' := 0) (h' := 241) zc_0 (by decide)) (by decide)) hP hD hS (lv_sub hl [0, 1, 2, 3, 4, 5, 6] rfl)
          intro k_1301
          induction k_1301 with
          | zero =>
            intro y_1302 y_1303 y_1304 y_1305 y_1306 y_1307 H locs ls hy_1302 hy_1303 hy_1304 hy_1305 hli_1308 hli_1309 hli_1310 hli_1311 hmk_1301 hP hD hS hl
            exact (zm_up0 hy_1302 hmk_1301).elim
          | succ k_1301 ihk_1301 =>
            intro y_1302 y_1303 y_1304 y_1305 y_1306 y_1307 H locs ls hy_1302 hy_1303 hy_1304 hy_1305 hli_1308 hli_1309 hli_1310 hli_1311 hmk_1301 hP hD hS hl
            refine lv_iload hx hb d_Model_layStates_110 (lv_at hl 0 rfl) ?_
            refine lv_aload_n hx hb d_Model_layStates_112 rfl (lv_at hl 3 rfl) ?_
            refine va_get (D := G.1) (ci := 12) (v := .ref b18) (C := R_Model) (T := F_Model) (N := 54) hx hb hts i_Model hown hK hP 9 rfl rfl 15 (by decide) (hts _ q1124) (fun _ h9 => h9) rfl d_Model_layStates_113 ?_
            refine lv_iload_n hx hb d_Model_layStates_116 rfl (lv_at hl 4 rfl) ?_
            refine va_iald hx hb hK hP 0 0 rfl rfl (i := 0) (z_in rfl) d_Model_layStates_117 ?_
            refine lv_topi (fun v_1312 ev_1312 => ?_)
            have hv_1312 : zI v_1312 0 241 := (hb58 _).eq ev_1312
            refine lv_icmp_ge (tgt := 258) hx hb d_Model_layStates_118 (by decide) (fun hc_1313 => ?_) (fun hc_1313 => ?_)
            · have _nhc_1313 := hc_1313
              have ni_1314 := (fa_le _ _).mp hc_1313
              exact z_vret hx hb hr hlocks (hP.sub [9, 10, 0, 1, 2, 3, 4, 5, 6, 7, 8] rfl) (hD.sub [9, 10, 0, 1, 2, 3, 4, 5, 6, 7, 8] (by decide) rfl) hS (Nat.le_of_ble_eq_true rfl) (Nat.le_of_ble_eq_true rfl) d_Model_layStates_258 ⟨y_763, y_764, y_1303, y_1304, y_1305, y_1306, y_1307, rfl, rfl, hy_764, hy_1303, hy_1304, hy_1305, (by have h6 : v_1312.toInt = (b58 (0 : Int32).toNatClampNeg).toInt := (by rw [ev_1312]); intro h1 h2 h3 p hp; exact hli_1309 p (by omega)), (by have h6 : v_1312.toInt = (b58 (0 : Int32).toNatClampNeg).toInt := (by rw [ev_1312]); intro h1 h2 h3; exact hli_1310 (by omega)), hli_1311⟩
            · have _nhc_1313 := hc_1313
              have ni_1315 := (fa_lt _ _).mp (zi_nle hc_1313)
              have hv_1316 : zI y_1302 0 240 := zI.lt_l hy_1302 hv_1312 (zi_nle hc_1313) (by decide)
              have hv_1317 : zI v_1312 1 241 := zI.lt_r hy_1302 hv_1312 (zi_nle hc_1313) (by decide)
              refine lv_iload hx hb d_Model_layStates_121 (lv_at hl 1 rfl) ?_
              refine lv_if_eq (tgt := 258) hx hb d_Model_layStates_123 (by decide) (fun hc => absurd hc (by decide +kernel)) (fun _ => ?_)
              refine lv_iconst (v := 0) hx hb d_Model_layStates_126 (by decide) ?_
              refine lv_istore (lv' := [(7, .int 0), (6, .int y_1302), (5, .int 1), (4, .int 0), (0, .ref b0), (1, .int 0), (2, .int b1), (3, .int b2)]) hx hb d_Model_layStates_127 hl (by decide) rfl (fun ls hl => ?_)
              suffices key : ∀ (k_1390 : Nat) (y_1391 : Int32) (H : Heap) (locs : List Loc) (ls : Array Slot), (zI y_1391 0 240) → ((y_1391 : Int32).toInt ≤ (y_1304 (0 : Int32).toNatClampNeg).toInt) → (240 : Int) - y_1391.toInt < (k_1390 : Int) → va_P G.1 classes [(b18, .inl (G.2 0, 2, .inl b58)), (b20, .inl (G.2 0, 520, .inl b59)), (b21, .inl (G.2 0, 9640, .inl y_763)), (b22, .inl (G.2 0, 482, .inl y_764)), (b23, .inl (G.2 0, 482, .inl y_1303)), (b24, .inl (G.2 0, 2, .inl y_1304)), (b25, .inl (G.2 0, 482, .inl y_1305)), (b26, .inl (G.2 0, 482, .inl y_1306)), (b27, .inl (G.2 0, 482, .inl y_1307)), (b0, .inr (12, [.int b3, .ref b4, .ref b5, .ref b6, .ref b7, .int b8, .ref b9, .int b10, .int b11, .int b12, .int b13, .ref b14, .ref b15, .ref b16, .int b17, .ref b18, .ref b19, .ref b20, .ref b21, .ref b22, .ref b23, .ref b24, .ref b25, .ref b26, .ref b27, .ref b28, .ref b29, .int b30, .ref b31, .ref b32, .int b33, .int b34, .int b35, .int b36, .ref b37, .ref b38, .ref b39, .ref b40, .ref b41, .ref b42, .ref b43, .int b44, .ref b45, .ref b46, .int b47, .ref b48, .ref b49, .ref b50, .ref b51, .ref b52, .int b53, .ref b54, .ref b55, .ref b56])), (b4, .inl (G.2 0, 503, .inl b57))] H → va_D A [(b18, .inl (G.2 0, 2, .inl b58)), (b20, .inl (G.2 0, 520, .inl b59)), (b21, .inl (G.2 0, 9640, .inl y_763)), (b22, .inl (G.2 0, 482, .inl y_764)), (b23, .inl (G.2 0, 482, .inl y_1303)), (b24, .inl (G.2 0, 2, .inl y_1304)), (b25, .inl (G.2 0, 482, .inl y_1305)), (b26, .inl (G.2 0, 482, .inl y_1306)), (b27, .inl (G.2 0, 482, .inl y_1307)), (b0, .inr (12, [.int b3, .ref b4, .ref b5, .ref b6, .ref b7, .int b8, .ref b9, .int b10, .int b11, .int b12, .int b13, .ref b14, .ref b15, .ref b16, .int b17, .ref b18, .ref b19, .ref b20, .ref b21, .ref b22, .ref b23, .ref b24, .ref b25, .ref b26, .ref b27, .ref b28, .ref b29, .int b30, .ref b31, .ref b32, .int b33, .int b34, .int b35, .int b36, .ref b37, .ref b38, .ref b39, .ref b40, .ref b41, .ref b42, .ref b43, .int b44, .ref b45, .ref b46, .int b47, .ref b48, .ref b49, .ref b50, .ref b51, .ref b52, .int b53, .ref b54, .ref b55, .ref b56])), (b4, .inl (G.2 0, 503, .inl b57))] → va_S A s.heap H locs → lv_has ls 8 [(7, .int y_1391), (6, .int y_1302), (5, .int 1), (4, .int 0), (0, .ref b0), (1, .int 0), (2, .int b1), (3, .int b2)] → W p l e m_s1_Model_layStates s m ([.ref b0, .int 0, .int b1, .int b2] : List Value).toArray below meth c H locs 0 0 (MQ below (zQ G (fun v w => ∃ (e0 : Nat → Int32), ∃ (e1 : Nat → Int32), ∃ (e2 : Nat → Int32), ∃ (e3 : Nat → Int32), ∃ (e4 : Nat → Int32), ∃ (e5 : Nat → Int32), ∃ (e6 : Nat → Int32), v = none ∧ w = [(b0, .inr (12, [.int b3, .ref b4, .ref b5, .ref b6, .ref b7, .int b8, .ref b9, .int b10, .int b11, .int b12, .int b13, .ref b14, .ref b15, .ref b16, .int b17, .ref b18, .ref b19, .ref b20, .ref b21, .ref b22, .ref b23, .ref b24, .ref b25, .ref b26, .ref b27, .ref b28, .ref b29, .int b30, .ref b31, .ref b32, .int b33, .int b34, .int b35, .int b36, .ref b37, .ref b38, .ref b39, .ref b40, .ref b41, .ref b42, .ref b43, .int b44, .ref b45, .ref b46, .int b47, .ref b48, .ref b49, .ref b50, .ref b51, .ref b52, .int b53, .ref b54, .ref b55, .ref b56])), (b4, .inl (G.2 0, 503, .inl b57)), (b18, .inl (G.2 0, 2, .inl b58)), (b20, .inl (G.2 0, 520, .inl b59)), (b21, .inl (G.2 0, 9640, .inl e0)), (b22, .inl (G.2 0, 482, .inl e1)), (b23, .inl (G.2 0, 482, .inl e2)), (b24, .inl (G.2 0, 2, .inl e3)), (b25, .inl (G.2 0, 482, .inl e4)), (b26, .inl (G.2 0, 482, .inl e5)), (b27, .inl (G.2 0, 482, .inl e6))] ∧ (zqa qC e1) ∧ (zR e2 0 240) ∧ (zR e3 0 241) ∧ (zR e4 0 240) ∧ ((b2 : Int32).toInt = -1 → 1 ≤ (b57 (0 : Int32).toNatClampNeg).toInt → 1 ≤ (b58 (0 : Int32).toNatClampNeg).toInt → ∀ p : Nat, (p : Int) < (b58 (0 : Int32).toNatClampNeg).toInt → (e2 p).toInt < (e3 (0 : Int32).toNatClampNeg).toInt) ∧ ((b2 : Int32).toInt = -1 → 1 ≤ (b57 (0 : Int32).toNatClampNeg).toInt → 1 ≤ (b58 (0 : Int32).toNatClampNeg).toInt → (e2 0).toInt = 0) ∧ (∀ s : Nat, (s : Int) < (e3 (0 : Int32).toNatClampNeg).toInt → (e6 s).toInt = 0)) A) ([.ref b0, .int 0, .int b1, .int b2] : List Value).toArray s m_s1_Model_layStates.cells m_s1_Model_layStates.slots A) (F0 m 129 ls []) by
                exact key 241 (0) _ _ _ (zI.wk (l' := 0) (h' := 240) zc_0 (by decide)) (by have _l0 := li_0; have h9 := hy_1304 (0 : Int32).toNatClampNeg; omega) (zm_upi (zI.wk (l' := 0) (h' := 240) zc_0 (by decide)) (by decide)) hP hD hS (lv_sub hl [0, 1, 2, 3, 4, 5, 6, 7] rfl)
              intro k_1390
              induction k_1390 with
              | zero =>
                intro y_1391 H locs ls hy_1391 hli_1392 hmk_1390 hP hD hS hl
                exact (zm_up0 hy_1391 hmk_1390).elim
              | succ k_1390 ihk_1390 =>
                intro y_1391 H locs ls hy_1391 hli_1392 hmk_1390 hP hD hS hl
                refine lv_iload hx hb d_Model_layStates_129 (lv_at hl 0 rfl) ?_
                refine lv_aload_n hx hb d_Model_layStates_131 rfl (lv_at hl 4 rfl) ?_
                refine va_get (D := G.1) (ci := 12) (v := .ref b24) (C := R_Model) (T := F_Model) (N := 54) hx hb hts i_Model hown hK hP 9 rfl rfl 21 (by decide) (hts _ q1130) (fun _ h9 => h9) rfl d_Model_layStates_132 ?_
                refine lv_iload_n hx hb d_Model_layStates_135 rfl (lv_at hl 5 rfl) ?_
                refine va_iald hx hb hK hP 5 0 rfl rfl (i := 0) (z_in rfl) d_Model_layStates_136 ?_
                refine lv_topi (fun v_1393 ev_1393 => ?_)
                have hv_1393 : zI v_1393 0 241 := (hy_1304 _).eq ev_1393
                have hv_1394 : zI v_1393 0 240 := ⟨hv_1393.1, by rw [ev_1393]; omega⟩
                have hsmv_1393 : v_1393.toInt ≤ y_1302.toInt := by rw [ev_1393]; omega
                refine lv_icmp_ge (tgt := 171) hx hb d_Model_layStates_137 (by decide) (fun hc_1395 => ?_) (fun hc_1395 => ?_)
                · have _nhc_1395 := hc_1395
                  have ni_1396 := (fa_le _ _).mp hc_1395
                  refine lv_iload hx hb d_Model_layStates_171 (lv_at hl 0 rfl) ?_
                  refine lv_aload_n hx hb d_Model_layStates_173 rfl (lv_at hl 4 rfl) ?_
                  refine va_get (D := G.1) (ci := 12) (v := .ref b24) (C := R_Model) (T := F_Model) (N := 54) hx hb hts i_Model hown hK hP 9 rfl rfl 21 (by decide) (hts _ q1130) (fun _ h9 => h9) rfl d_Model_layStates_174 ?_
                  refine lv_iload_n hx hb d_Model_layStates_177 rfl (lv_at hl 5 rfl) ?_
                  refine va_iald hx hb hK hP 5 0 rfl rfl (i := 0) (z_in rfl) d_Model_layStates_178 ?_
                  refine lv_topi (fun v_1397 ev_1397 => ?_)
                  obtain rfl : v_1393 = v_1397 := ev_1393.trans ev_1397.symm
                  refine lv_icmp_ne (tgt := 226) hx hb d_Model_layStates_179 (by decide) (fun hc_1398 => ?_) (fun hc_1398 => ?_)
                  · have _nhc_1398 := hc_1398
                    have ni_1399 : ¬ (y_1391 : Int32).toInt = (v_1393 : Int32).toInt := fun z => hc_1398 ((fa_eq _ _).mpr z)
                    refine lv_aload_n hx hb d_Model_layStates_226 rfl (lv_at hl 4 rfl) ?_
                    refine va_get (D := G.1) (ci := 12) (v := .ref b26) (C := R_Model) (T := F_Model) (N := 54) hx hb hts i_Model hown hK hP 9 rfl rfl 23 (by decide) (hts _ q1132) (fun _ h9 => h9) rfl d_Model_layStates_227 ?_
                    refine lv_iload hx hb d_Model_layStates_230 (lv_at hl 3 rfl) ?_
                    refine lv_iload hx hb d_Model_layStates_232 (lv_at hl 0 rfl) ?_
                    refine lv_iadd hx hb d_Model_layStates_234 ?_
                    refine lv_topi (fun v_1400 ev_1400 => ?_)
                    obtain ⟨qv_1400, hv_1400⟩ := zI_add (l := 0) (h := 240) zc_0 hy_1391 ev_1400 (by decide)
                    rw [li_0] at qv_1400
                    refine lv_dup2_11 hx hb d_Model_layStates_235 rfl rfl ?_
                    refine va_iald hx hb hK hP 7 0 rfl rfl (zI.inn hv_1400 (by decide)) d_Model_layStates_236 ?_
                    refine lv_topi (fun v_1401 ev_1401 => ?_)
                    refine lv_iconst (v := 1) hx hb d_Model_layStates_237 (by decide) ?_
                    refine lv_iadd hx hb d_Model_layStates_238 ?_
                    refine lv_topi (fun v_1402 ev_1402 => ?_)
                    refine va_iast hx hb hK hP hD hS 7 0 rfl rfl (zI.inn hv_1400 (by decide)) d_Model_layStates_239 (fun H locs hP hD hS => ?_)
                    obtain ⟨f_1403, gf_1403, uf_1403, hP, hD⟩ := z_newFu 7 hP hD rfl
                    have hP : va_P G.1 classes [(b18, .inl (G.2 0, 2, .inl b58)), (b20, .inl (G.2 0, 520, .inl b59)), (b21, .inl (G.2 0, 9640, .inl y_763)), (b22, .inl (G.2 0, 482, .inl y_764)), (b23, .inl (G.2 0, 482, .inl y_1303)), (b24, .inl (G.2 0, 2, .inl y_1304)), (b25, .inl (G.2 0, 482, .inl y_1305)), (b26, .inl (G.2 0, 482, .inl f_1403)), (b27, .inl (G.2 0, 482, .inl y_1307)), (b0, .inr (12, [.int b3, .ref b4, .ref b5, .ref b6, .ref b7, .int b8, .ref b9, .int b10, .int b11, .int b12, .int b13, .ref b14, .ref b15, .ref b16, .int b17, .ref b18, .ref b19, .ref b20, .ref b21, .ref b22, .ref b23, .ref b24, .ref b25, .ref b26, .ref b27, .ref b28, .ref b29, .int b30, .ref b31, .ref b32, .int b33, .int b34, .int b35, .int b36, .ref b37, .ref b38, .ref b39, .ref b40, .ref b41, .ref b42, .ref b43, .int b44, .ref b45, .ref b46, .int b47, .ref b48, .ref b49, .ref b50, .ref b51, .ref b52, .int b53, .ref b54, .ref b55, .ref b56])), (b4, .inl (G.2 0, 503, .inl b57))] H := hP
                    have hD := z_tie hP hD rfl
                    refine lv_aload_n hx hb d_Model_layStates_240 rfl (lv_at hl 4 rfl) ?_
                    refine va_get (D := G.1) (ci := 12) (v := .ref b23) (C := R_Model) (T := F_Model) (N := 54) hx hb hts i_Model hown hK hP 9 rfl rfl 20 (by decide) (hts _ q1129) (fun _ h9 => h9) rfl d_Model_layStates_241 ?_
                    refine lv_iload hx hb d_Model_layStates_244 (lv_at hl 3 rfl) ?_
                    refine lv_iload hx hb d_Model_layStates_246 (lv_at hl 1 rfl) ?_
                    refine lv_iadd hx hb d_Model_layStates_248 ?_
                    refine lv_topi (fun v_1404 ev_1404 => ?_)
                    obtain ⟨qv_1404, hv_1404⟩ := zI_add (l := 0) (h := 240) zc_0 hv_1316 ev_1404 (by decide)
                    rw [li_0] at qv_1404
                    refine lv_iload hx hb d_Model_layStates_249 (lv_at hl 0 rfl) ?_
                    refine va_iast hx hb hK hP hD hS 4 0 rfl rfl (zI.inn hv_1404 (by decide)) d_Model_layStates_251 (fun H locs hP hD hS => ?_)
                    obtain ⟨f_1405, hf_1405, gf_1405, uf_1405, hP, hD⟩ := z_newfu 4 hP hD rfl hy_1303 hy_1391
                    have hP : va_P G.1 classes [(b18, .inl (G.2 0, 2, .inl b58)), (b20, .inl (G.2 0, 520, .inl b59)), (b21, .inl (G.2 0, 9640, .inl y_763)), (b22, .inl (G.2 0, 482, .inl y_764)), (b23, .inl (G.2 0, 482, .inl f_1405)), (b24, .inl (G.2 0, 2, .inl y_1304)), (b25, .inl (G.2 0, 482, .inl y_1305)), (b26, .inl (G.2 0, 482, .inl f_1403)), (b27, .inl (G.2 0, 482, .inl y_1307)), (b0, .inr (12, [.int b3, .ref b4, .ref b5, .ref b6, .ref b7, .int b8, .ref b9, .int b10, .int b11, .int b12, .int b13, .ref b14, .ref b15, .ref b16, .int b17, .ref b18, .ref b19, .ref b20, .ref b21, .ref b22, .ref b23, .ref b24, .ref b25, .ref b26, .ref b27, .ref b28, .ref b29, .int b30, .ref b31, .ref b32, .int b33, .int b34, .int b35, .int b36, .ref b37, .ref b38, .ref b39, .ref b40, .ref b41, .ref b42, .ref b43, .int b44, .ref b45, .ref b46, .int b47, .ref b48, .ref b49, .ref b50, .ref b51, .ref b52, .int b53, .ref b54, .ref b55, .ref b56])), (b4, .inl (G.2 0, 503, .inl b57))] H := hP
                    have hD := z_tie hP hD rfl
                    obtain ⟨v_1406, ev_1406⟩ : ∃ z : Int32, z = y_1302 + 1 := ⟨_, rfl⟩
                    obtain ⟨qv_1406, hv_1406⟩ := zI_add (l := 1) (h := 241) hv_1316 zc_1 ev_1406 (by decide)
                    rw [li_1] at qv_1406
                    refine lv_iinc (v := v_1406) (lv' := [(6, .int v_1406), (7, .int y_1391), (5, .int 1), (4, .int 0), (0, .ref b0), (1, .int 0), (2, .int b1), (3, .int b2)]) hx hb d_Model_layStates_252 hl (k := 1) rfl (by rw [ev_1406]; rfl) (by decide) rfl (fun ls hl => ?_)
                    refine lv_goto (tgt := 110) hx hb d_Model_layStates_255 (by decide) ?_
                    exact ihk_1301 (v_1406) (f_1405) (y_1304) (y_1305) (f_1403) (y_1307) _ _ _ (zI.wk (l' := 0) (h' := 241) hv_1406 (by decide)) hf_1405 hy_1304 hy_1305 (by omega) (by have _l0 := li_0; have _l1 := li_1; have h8 : v_1393.toInt = (y_1304 (0 : Int32).toNatClampNeg).toInt := (by rw [ev_1393]); have p9 := z_pl hv_1404 (by decide); have w0 := hli_1308; have w1 := hli_1392; intro q hq; rw [uf_1405, z_at]; split; omega; have := hli_1309 q (by omega); omega) (by have _l0 := li_0; have _l1 := li_1; have h8 : v_1393.toInt = (y_1304 (0 : Int32).toNatClampNeg).toInt := (by rw [ev_1393]); have p9 := z_pl hv_1404 (by decide); have w0 := hli_1308; have w1 := hli_1392; intro hq; rw [uf_1405, z_at]; split; omega; exact hli_1310 (by omega)) hli_1311 (zm_up qv_1406 hmk_1301 (by decide)) hP hD hS (lv_sub hl [0, 2, 3, 4, 5, 6, 7] rfl)
                  · have _nhc_1398 := hc_1398
                    have ni_1407 := (fa_eq _ _).mp hc_1398
                    refine lv_aload_n hx hb d_Model_layStates_182 rfl (lv_at hl 4 rfl) ?_
                    refine va_get (D := G.1) (ci := 12) (v := .ref b25) (C := R_Model) (T := F_Model) (N := 54) hx hb hts i_Model hown hK hP 9 rfl rfl 22 (by decide) (hts _ q1131) (fun _ h9 => h9) rfl d_Model_layStates_183 ?_
                    refine lv_iload hx hb d_Model_layStates_186 (lv_at hl 3 rfl) ?_
                    refine lv_iload hx hb d_Model_layStates_188 (lv_at hl 0 rfl) ?_
                    refine lv_iadd hx hb d_Model_layStates_190 ?_
                    refine lv_topi (fun v_1408 ev_1408 => ?_)
                    obtain ⟨qv_1408, hv_1408⟩ := zI_add (l := 0) (h := 240) zc_0 hy_1391 ev_1408 (by decide)
                    rw [li_0] at qv_1408
                    refine lv_iload hx hb d_Model_layStates_191 (lv_at hl 1 rfl) ?_
                    refine va_iast hx hb hK hP hD hS 6 0 rfl rfl (zI.inn hv_1408 (by decide)) d_Model_layStates_193 (fun H locs hP hD hS => ?_)
                    obtain ⟨f_1409, hf_1409, gf_1409, uf_1409, hP, hD⟩ := z_newfu 6 hP hD rfl hy_1305 hv_1316
                    have hP : va_P G.1 classes [(b18, .inl (G.2 0, 2, .inl b58)), (b20, .inl (G.2 0, 520, .inl b59)), (b21, .inl (G.2 0, 9640, .inl y_763)), (b22, .inl (G.2 0, 482, .inl y_764)), (b23, .inl (G.2 0, 482, .inl y_1303)), (b24, .inl (G.2 0, 2, .inl y_1304)), (b25, .inl (G.2 0, 482, .inl f_1409)), (b26, .inl (G.2 0, 482, .inl y_1306)), (b27, .inl (G.2 0, 482, .inl y_1307)), (b0, .inr (12, [.int b3, .ref b4, .ref b5, .ref b6, .ref b7, .int b8, .ref b9, .int b10, .int b11, .int b12, .int b13, .ref b14, .ref b15, .ref b16, .int b17, .ref b18, .ref b19, .ref b20, .ref b21, .ref b22, .ref b23, .ref b24, .ref b25, .ref b26, .ref b27, .ref b28, .ref b29, .int b30, .ref b31, .ref b32, .int b33, .int b34, .int b35, .int b36, .ref b37, .ref b38, .ref b39, .ref b40, .ref b41, .ref b42, .ref b43, .int b44, .ref b45, .ref b46, .int b47, .ref b48, .ref b49, .ref b50, .ref b51, .ref b52, .int b53, .ref b54, .ref b55, .ref b56])), (b4, .inl (G.2 0, 503, .inl b57))] H := hP
                    have hD := z_tie hP hD rfl
                    refine lv_aload_n hx hb d_Model_layStates_194 rfl (lv_at hl 4 rfl) ?_
                    refine va_get (D := G.1) (ci := 12) (v := .ref b26) (C := R_Model) (T := F_Model) (N := 54) hx hb hts i_Model hown hK hP 9 rfl rfl 23 (by decide) (hts _ q1132) (fun _ h9 => h9) rfl d_Model_layStates_195 ?_
                    refine lv_iload hx hb d_Model_layStates_198 (lv_at hl 3 rfl) ?_
                    refine lv_iload hx hb d_Model_layStates_200 (lv_at hl 0 rfl) ?_
                    refine lv_iadd hx hb d_Model_layStates_202 ?_
                    refine lv_topi (fun v_1410 ev_1410 => ?_)
                    obtain rfl : v_1408 = v_1410 := ev_1408.trans ev_1410.symm
                    refine lv_iconst (v := 0) hx hb d_Model_layStates_203 (by decide) ?_
                    refine va_iast hx hb hK hP hD hS 7 0 rfl rfl (zI.inn hv_1408 (by decide)) d_Model_layStates_204 (fun H locs hP hD hS => ?_)
                    obtain ⟨f_1411, gf_1411, uf_1411, hP, hD⟩ := z_newFu 7 hP hD rfl
                    have hP : va_P G.1 classes [(b18, .inl (G.2 0, 2, .inl b58)), (b20, .inl (G.2 0, 520, .inl b59)), (b21, .inl (G.2 0, 9640, .inl y_763)), (b22, .inl (G.2 0, 482, .inl y_764)), (b23, .inl (G.2 0, 482, .inl y_1303)), (b24, .inl (G.2 0, 2, .inl y_1304)), (b25, .inl (G.2 0, 482, .inl f_1409)), (b26, .inl (G.2 0, 482, .inl f_1411)), (b27, .inl (G.2 0, 482, .inl y_1307)), (b0, .inr (12, [.int b3, .ref b4, .ref b5, .ref b6, .ref b7, .int b8, .ref b9, .int b10, .int b11, .int b12, .int b13, .ref b14, .ref b15, .ref b16, .int b17, .ref b18, .ref b19, .ref b20, .ref b21, .ref b22, .ref b23, .ref b24, .ref b25, .ref b26, .ref b27, .ref b28, .ref b29, .int b30, .ref b31, .ref b32, .int b33, .int b34, .int b35, .int b36, .ref b37, .ref b38, .ref b39, .ref b40, .ref b41, .ref b42, .ref b43, .int b44, .ref b45, .ref b46, .int b47, .ref b48, .ref b49, .ref b50, .ref b51, .ref b52, .int b53, .ref b54, .ref b55, .ref b56])), (b4, .inl (G.2 0, 503, .inl b57))] H := hP
                    have hD := z_tie hP hD rfl
                    refine lv_aload_n hx hb d_Model_layStates_205 rfl (lv_at hl 4 rfl) ?_
                    refine va_get (D := G.1) (ci := 12) (v := .ref b27) (C := R_Model) (T := F_Model) (N := 54) hx hb hts i_Model hown hK hP 9 rfl rfl 24 (by decide) (hts _ q1133) (fun _ h9 => h9) rfl d_Model_layStates_206 ?_
                    refine lv_iload hx hb d_Model_layStates_209 (lv_at hl 3 rfl) ?_
                    refine lv_iload hx hb d_Model_layStates_211 (lv_at hl 0 rfl) ?_
                    refine lv_iadd hx hb d_Model_layStates_213 ?_
                    refine lv_topi (fun v_1412 ev_1412 => ?_)
                    obtain rfl : v_1408 = v_1412 := ev_1408.trans ev_1412.symm
                    refine lv_iconst (v := 0) hx hb d_Model_layStates_214 (by decide) ?_
                    refine va_iast hx hb hK hP hD hS 8 0 rfl rfl (zI.inn hv_1408 (by decide)) d_Model_layStates_215 (fun H locs hP hD hS => ?_)
                    obtain ⟨f_1413, gf_1413, uf_1413, hP, hD⟩ := z_newFu 8 hP hD rfl
                    have hP : va_P G.1 classes [(b18, .inl (G.2 0, 2, .inl b58)), (b20, .inl (G.2 0, 520, .inl b59)), (b21, .inl (G.2 0, 9640, .inl y_763)), (b22, .inl (G.2 0, 482, .inl y_764)), (b23, .inl (G.2 0, 482, .inl y_1303)), (b24, .inl (G.2 0, 2, .inl y_1304)), (b25, .inl (G.2 0, 482, .inl f_1409)), (b26, .inl (G.2 0, 482, .inl f_1411)), (b27, .inl (G.2 0, 482, .inl f_1413)), (b0, .inr (12, [.int b3, .ref b4, .ref b5, .ref b6, .ref b7, .int b8, .ref b9, .int b10, .int b11, .int b12, .int b13, .ref b14, .ref b15, .ref b16, .int b17, .ref b18, .ref b19, .ref b20, .ref b21, .ref b22, .ref b23, .ref b24, .ref b25, .ref b26, .ref b27, .ref b28, .ref b29, .int b30, .ref b31, .ref b32, .int b33, .int b34, .int b35, .int b36, .ref b37, .ref b38, .ref b39, .ref b40, .ref b41, .ref b42, .ref b43, .int b44, .ref b45, .ref b46, .int b47, .ref b48, .ref b49, .ref b50, .ref b51, .ref b52, .int b53, .ref b54, .ref b55, .ref b56])), (b4, .inl (G.2 0, 503, .inl b57))] H := hP
                    have hD := z_tie hP hD rfl
                    refine lv_aload_n hx hb d_Model_layStates_216 rfl (lv_at hl 4 rfl) ?_
                    refine va_get (D := G.1) (ci := 12) (v := .ref b24) (C := R_Model) (T := F_Model) (N := 54) hx hb hts i_Model hown hK hP 9 rfl rfl 21 (by decide) (hts _ q1130) (fun _ h9 => h9) rfl d_Model_layStates_217 ?_
                    refine lv_iload_n hx hb d_Model_layStates_220 rfl (lv_at hl 5 rfl) ?_
                    refine lv_dup2_11 hx hb d_Model_layStates_221 rfl rfl ?_
                    refine va_iald hx hb hK hP 5 0 rfl rfl (i := 0) (z_in rfl) d_Model_layStates_222 ?_
                    refine lv_topi (fun v_1414 ev_1414 => ?_)
                    obtain rfl : v_1393 = v_1414 := ev_1393.trans ev_1414.symm
                    refine lv_iconst (v := 1) hx hb d_Model_layStates_223 (by decide) ?_
                    refine lv_iadd hx hb d_Model_layStates_224 ?_
                    refine lv_topi (fun v_1415 ev_1415 => ?_)
                    obtain ⟨qv_1415, hv_1415⟩ := zI_add (l := 1) (h := 241) hv_1394 zc_1 ev_1415 (by decide)
                    rw [li_1] at qv_1415
                    refine va_iast hx hb hK hP hD hS 5 0 rfl rfl (i := 0) (z_in rfl) d_Model_layStates_225 (fun H locs hP hD hS => ?_)
                    obtain ⟨f_1416, hf_1416, gf_1416, uf_1416, hP, hD⟩ := z_newfu 5 hP hD rfl hy_1304 (zI.wk (l' := 0) (h' := 241) hv_1415 (by decide))
                    have hP : va_P G.1 classes [(b18, .inl (G.2 0, 2, .inl b58)), (b20, .inl (G.2 0, 520, .inl b59)), (b21, .inl (G.2 0, 9640, .inl y_763)), (b22, .inl (G.2 0, 482, .inl y_764)), (b23, .inl (G.2 0, 482, .inl y_1303)), (b24, .inl (G.2 0, 2, .inl f_1416)), (b25, .inl (G.2 0, 482, .inl f_1409)), (b26, .inl (G.2 0, 482, .inl f_1411)), (b27, .inl (G.2 0, 482, .inl f_1413)), (b0, .inr (12, [.int b3, .ref b4, .ref b5, .ref b6, .ref b7, .int b8, .ref b9, .int b10, .int b11, .int b12, .int b13, .ref b14, .ref b15, .ref b16, .int b17, .ref b18, .ref b19, .ref b20, .ref b21, .ref b22, .ref b23, .ref b24, .ref b25, .ref b26, .ref b27, .ref b28, .ref b29, .int b30, .ref b31, .ref b32, .int b33, .int b34, .int b35, .int b36, .ref b37, .ref b38, .ref b39, .ref b40, .ref b41, .ref b42, .ref b43, .int b44, .ref b45, .ref b46, .int b47, .ref b48, .ref b49, .ref b50, .ref b51, .ref b52, .int b53, .ref b54, .ref b55, .ref b56])), (b4, .inl (G.2 0, 503, .inl b57))] H := hP
                    have hD := z_tie hP hD rfl
                    refine lv_aload_n hx hb d_Model_layStates_226 rfl (lv_at hl 4 rfl) ?_
                    refine va_get (D := G.1) (ci := 12) (v := .ref b26) (C := R_Model) (T := F_Model) (N := 54) hx hb hts i_Model hown hK hP 9 rfl rfl 23 (by decide) (hts _ q1132) (fun _ h9 => h9) rfl d_Model_layStates_227 ?_
                    refine lv_iload hx hb d_Model_layStates_230 (lv_at hl 3 rfl) ?_
                    refine lv_iload hx hb d_Model_layStates_232 (lv_at hl 0 rfl) ?_
                    refine lv_iadd hx hb d_Model_layStates_234 ?_
                    refine lv_topi (fun v_1417 ev_1417 => ?_)
                    obtain rfl : v_1408 = v_1417 := ev_1408.trans ev_1417.symm
                    refine lv_dup2_11 hx hb d_Model_layStates_235 rfl rfl ?_
                    refine va_iald hx hb hK hP 7 0 rfl rfl (zI.inn hv_1408 (by decide)) d_Model_layStates_236 ?_
                    refine lv_topi (fun v_1418 ev_1418 => ?_)
                    obtain rfl : v_1418 = 0 := ev_1418.trans gf_1411
                    refine lv_iconst (v := 1) hx hb d_Model_layStates_237 (by decide) ?_
                    refine lv_iadd hx hb d_Model_layStates_238 ?_
                    refine z_topi (y := 1) (by decide +kernel) ?_
                    refine va_iast hx hb hK hP hD hS 7 0 rfl rfl (zI.inn hv_1408 (by decide)) d_Model_layStates_239 (fun H locs hP hD hS => ?_)
                    obtain ⟨f_1419, gf_1419, uf_1419, hP, hD⟩ := z_newFu 7 hP hD rfl
                    have hP : va_P G.1 classes [(b18, .inl (G.2 0, 2, .inl b58)), (b20, .inl (G.2 0, 520, .inl b59)), (b21, .inl (G.2 0, 9640, .inl y_763)), (b22, .inl (G.2 0, 482, .inl y_764)), (b23, .inl (G.2 0, 482, .inl y_1303)), (b24, .inl (G.2 0, 2, .inl f_1416)), (b25, .inl (G.2 0, 482, .inl f_1409)), (b26, .inl (G.2 0, 482, .inl f_1419)), (b27, .inl (G.2 0, 482, .inl f_1413)), (b0, .inr (12, [.int b3, .ref b4, .ref b5, .ref b6, .ref b7, .int b8, .ref b9, .int b10, .int b11, .int b12, .int b13, .ref b14, .ref b15, .ref b16, .int b17, .ref b18, .ref b19, .ref b20, .ref b21, .ref b22, .ref b23, .ref b24, .ref b25, .ref b26, .ref b27, .ref b28, .ref b29, .int b30, .ref b31, .ref b32, .int b33, .int b34, .int b35, .int b36, .ref b37, .ref b38, .ref b39, .ref b40, .ref b41, .ref b42, .ref b43, .int b44, .ref b45, .ref b46, .int b47, .ref b48, .ref b49, .ref b50, .ref b51, .ref b52, .int b53, .ref b54, .ref b55, .ref b56])), (b4, .inl (G.2 0, 503, .inl b57))] H := hP
                    have hD := z_tie hP hD rfl
                    refine lv_aload_n hx hb d_Model_layStates_240 rfl (lv_at hl 4 rfl) ?_
                    refine va_get (D := G.1) (ci := 12) (v := .ref b23) (C := R_Model) (T := F_Model) (N := 54) hx hb hts i_Model hown hK hP 9 rfl rfl 20 (by decide) (hts _ q1129) (fun _ h9 => h9) rfl d_Model_layStates_241 ?_
                    refine lv_iload hx hb d_Model_layStates_244 (lv_at hl 3 rfl) ?_
                    refine lv_iload hx hb d_Model_layStates_246 (lv_at hl 1 rfl) ?_
                    refine lv_iadd hx hb d_Model_layStates_248 ?_
                    refine lv_topi (fun v_1420 ev_1420 => ?_)
                    obtain ⟨qv_1420, hv_1420⟩ := zI_add (l := 0) (h := 240) zc_0 hv_1316 ev_1420 (by decide)
                    rw [li_0] at qv_1420
                    refine lv_iload hx hb d_Model_layStates_249 (lv_at hl 0 rfl) ?_
                    refine va_iast hx hb hK hP hD hS 4 0 rfl rfl (zI.inn hv_1420 (by decide)) d_Model_layStates_251 (fun H locs hP hD hS => ?_)
                    obtain ⟨f_1421, hf_1421, gf_1421, uf_1421, hP, hD⟩ := z_newfu 4 hP hD rfl hy_1303 hy_1391
                    have hP : va_P G.1 classes [(b18, .inl (G.2 0, 2, .inl b58)), (b20, .inl (G.2 0, 520, .inl b59)), (b21, .inl (G.2 0, 9640, .inl y_763)), (b22, .inl (G.2 0, 482, .inl y_764)), (b23, .inl (G.2 0, 482, .inl f_1421)), (b24, .inl (G.2 0, 2, .inl f_1416)), (b25, .inl (G.2 0, 482, .inl f_1409)), (b26, .inl (G.2 0, 482, .inl f_1419)), (b27, .inl (G.2 0, 482, .inl f_1413)), (b0, .inr (12, [.int b3, .ref b4, .ref b5, .ref b6, .ref b7, .int b8, .ref b9, .int b10, .int b11, .int b12, .int b13, .ref b14, .ref b15, .ref b16, .int b17, .ref b18, .ref b19, .ref b20, .ref b21, .ref b22, .ref b23, .ref b24, .ref b25, .ref b26, .ref b27, .ref b28, .ref b29, .int b30, .ref b31, .ref b32, .int b33, .int b34, .int b35, .int b36, .ref b37, .ref b38, .ref b39, .ref b40, .ref b41, .ref b42, .ref b43, .int b44, .ref b45, .ref b46, .int b47, .ref b48, .ref b49, .ref b50, .ref b51, .ref b52, .int b53, .ref b54, .ref b55, .ref b56])), (b4, .inl (G.2 0, 503, .inl b57))] H := hP
                    have hD := z_tie hP hD rfl
                    obtain ⟨v_1422, ev_1422⟩ : ∃ z : Int32, z = y_1302 + 1 := ⟨_, rfl⟩
                    obtain ⟨qv_1422, hv_1422⟩ := zI_add (l := 1) (h := 241) hv_1316 zc_1 ev_1422 (by decide)
                    rw [li_1] at qv_1422
                    refine lv_iinc (v := v_1422) (lv' := [(6, .int v_1422), (7, .int y_1391), (5, .int 1), (4, .int 0), (0, .ref b0), (1, .int 0), (2, .int b1), (3, .int b2)]) hx hb d_Model_layStates_252 hl (k := 1) rfl (by rw [ev_1422]; rfl) (by decide) rfl (fun ls hl => ?_)
                    refine lv_goto (tgt := 110) hx hb d_Model_layStates_255 (by decide) ?_
                    exact ihk_1301 (v_1422) (f_1421) (f_1416) (f_1409) (f_1419) (f_1413) _ _ _ (zI.wk (l' := 0) (h' := 241) hv_1422 (by decide)) hf_1421 hf_1416 hf_1409 (by rw [gf_1416]; omega) (by have _l0 := li_0; have _l1 := li_1; have h8 : v_1393.toInt = (y_1304 (0 : Int32).toNatClampNeg).toInt := (by rw [ev_1393]); have h7 := congrArg Int32.toInt gf_1416; have p9 := z_pl hv_1420 (by decide); have w0 := hli_1308; have w1 := hli_1392; intro q hq; rw [uf_1421, z_at]; split; omega; have := hli_1309 q (by omega); omega) (by have _l0 := li_0; have _l1 := li_1; have h8 : v_1393.toInt = (y_1304 (0 : Int32).toNatClampNeg).toInt := (by rw [ev_1393]); have h7 := congrArg Int32.toInt gf_1416; have p9 := z_pl hv_1420 (by decide); have w0 := hli_1308; have w1 := hli_1392; intro hq; rw [uf_1421, z_at]; split; omega; exact hli_1310 (by omega)) (by have _l0 := li_0; have _l1 := li_1; have h8 : v_1393.toInt = (y_1304 (0 : Int32).toNatClampNeg).toInt := (by rw [ev_1393]); have h7 := congrArg Int32.toInt gf_1416; have p9 := z_pl hv_1408 (by decide); have w1 := hli_1392; intro q hq; rw [uf_1413, z_at]; split; exact li_0; exact hli_1311 q (by omega)) (zm_up qv_1422 hmk_1301 (by decide)) hP hD hS (lv_sub hl [0, 2, 3, 4, 5, 6, 7] rfl)
                · have _nhc_1395 := hc_1395
                  have ni_1423 := (fa_lt _ _).mp (zi_nle hc_1395)
                  have hv_1424 : zI y_1391 0 239 := zI.lt_l hy_1391 hv_1394 (zi_nle hc_1395) (by decide)
                  have hv_1425 : zI v_1393 1 240 := zI.lt_r hy_1391 hv_1394 (zi_nle hc_1395) (by decide)
                  refine lv_aload_n hx hb d_Model_layStates_140 rfl (lv_at hl 4 rfl) ?_
                  refine lv_iload hx hb d_Model_layStates_141 (lv_at hl 3 rfl) ?_
                  refine lv_aload_n hx hb d_Model_layStates_143 rfl (lv_at hl 4 rfl) ?_
                  refine va_get (D := G.1) (ci := 12) (v := .ref b25) (C := R_Model) (T := F_Model) (N := 54) hx hb hts i_Model hown hK hP 9 rfl rfl 22 (by decide) (hts _ q1131) (fun _ h9 => h9) rfl d_Model_layStates_144 ?_
                  refine lv_iload hx hb d_Model_layStates_147 (lv_at hl 3 rfl) ?_
                  refine lv_iload hx hb d_Model_layStates_149 (lv_at hl 0 rfl) ?_
                  refine lv_iadd hx hb d_Model_layStates_151 ?_
                  refine lv_topi (fun v_1426 ev_1426 => ?_)
                  obtain ⟨qv_1426, hv_1426⟩ := zI_add (l := 0) (h := 239) zc_0 hv_1424 ev_1426 (by decide)
                  rw [li_0] at qv_1426
                  refine va_iald hx hb hK hP 6 0 rfl rfl (zI.inn hv_1426 (by decide)) d_Model_layStates_152 ?_
                  refine lv_topi (fun v_1427 ev_1427 => ?_)
                  have hv_1427 : zI v_1427 0 240 := (hy_1305 _).eq ev_1427
                  refine lv_iadd hx hb d_Model_layStates_153 ?_
                  refine lv_topi (fun v_1428 ev_1428 => ?_)
                  obtain ⟨qv_1428, hv_1428⟩ := zI_add (l := 0) (h := 240) zc_0 hv_1427 ev_1428 (by decide)
                  rw [li_0] at qv_1428
                  refine lv_iload hx hb d_Model_layStates_154 (lv_at hl 3 rfl) ?_
                  refine lv_iload hx hb d_Model_layStates_156 (lv_at hl 1 rfl) ?_
                  refine lv_iadd hx hb d_Model_layStates_158 ?_
                  refine lv_topi (fun v_1429 ev_1429 => ?_)
                  obtain ⟨qv_1429, hv_1429⟩ := zI_add (l := 0) (h := 240) zc_0 hv_1316 ev_1429 (by decide)
                  rw [li_0] at qv_1429
                  refine z_callV (index := 221) (As := [.int v_1428, .int v_1429]) (rest := []) (wr := [(b18, .inl (G.2 0, 2, .inl b58)), (b20, .inl (G.2 0, 520, .inl b59)), (b23, .inl (G.2 0, 482, .inl y_1303)), (b24, .inl (G.2 0, 2, .inl y_1304)), (b25, .inl (G.2 0, 482, .inl y_1305)), (b26, .inl (G.2 0, 482, .inl y_1306)), (b27, .inl (G.2 0, 482, .inl y_1307)), (b4, .inl (G.2 0, 503, .inl b57))]) Z (s1_Model_areAlike l G (b0) (v_1428) (v_1429) (b3) (b4) (b5) (b6) (b7) (b8) (b9) (b10) (b11) (b12) (b13) (b14) (b15) (b16) (b17) (b18) (b19) (b20) (b21) (b22) (b23) (b24) (b25) (b26) (b27) (b28) (b29) (b30) (b31) (b32) (b33) (b34) (b35) (b36) (b37) (b38) (b39) (b40) (b41) (b42) (b43) (b44) (b45) (b46) (b47) (b48) (b49) (b50) (b51) (b52) (b53) (b54) (b55) (b56) (y_763) (y_764) (zI.wk (l' := 0) (h' := 481) hv_1428 (by decide)) (zI.wk (l' := 0) (h' := 481) hv_1429 (by decide)) hb8 hb10 hb11 hb13 hb17 hb30 hb33 hb44 hb47 hb53 hy_764) hl.1 q1392 q1394 qs64 q14 q1395 ⟨by decide, by decide, by show _ = some 2; decide +kernel⟩ ⟨Nat.le_of_ble_eq_true rfl, Nat.le_of_ble_eq_true rfl⟩ ⟨Nat.le_of_ble_eq_true rfl, Nat.le_of_ble_eq_true rfl⟩ rfl (Nat.le_of_ble_eq_true rfl) d_Model_layStates_159 hP hD hS hA 9 12 rfl rfl rfl [9, 2, 3] [0, 1, 4, 5, 6, 7, 8, 10] rfl rfl rfl rfl (by decide) (fun v w1 H locs hw_1430 hP hD hS => ?_)
                  obtain ⟨x_1431, rfl, rfl, hx_1431⟩ := hw_1430
                  have hP : va_P G.1 classes [(b18, .inl (G.2 0, 2, .inl b58)), (b20, .inl (G.2 0, 520, .inl b59)), (b23, .inl (G.2 0, 482, .inl y_1303)), (b24, .inl (G.2 0, 2, .inl y_1304)), (b25, .inl (G.2 0, 482, .inl y_1305)), (b26, .inl (G.2 0, 482, .inl y_1306)), (b27, .inl (G.2 0, 482, .inl y_1307)), (b4, .inl (G.2 0, 503, .inl b57)), (b0, .inr (12, [.int b3, .ref b4, .ref b5, .ref b6, .ref b7, .int b8, .ref b9, .int b10, .int b11, .int b12, .int b13, .ref b14, .ref b15, .ref b16, .int b17, .ref b18, .ref b19, .ref b20, .ref b21, .ref b22, .ref b23, .ref b24, .ref b25, .ref b26, .ref b27, .ref b28, .ref b29, .int b30, .ref b31, .ref b32, .int b33, .int b34, .int b35, .int b36, .ref b37, .ref b38, .ref b39, .ref b40, .ref b41, .ref b42, .ref b43, .int b44, .ref b45, .ref b46, .int b47, .ref b48, .ref b49, .ref b50, .ref b51, .ref b52, .int b53, .ref b54, .ref b55, .ref b56])), (b21, .inl (G.2 0, 9640, .inl y_763)), (b22, .inl (G.2 0, 482, .inl y_764))] H := hP
                  have hD := z_tie hP hD rfl
                  refine W.widen (k := 0) (n := 0) (Nat.le_of_ble_eq_true rfl) (Nat.le_of_ble_eq_true rfl) ?_
                  refine lv_if_ne (tgt := 171) hx hb d_Model_layStates_162 (by decide) (fun hc_1432 => ?_) (fun hc_1432 => ?_)
                  · have _nhc_1432 := hc_1432
                    have ni_1433 : ¬ (x_1431 : Int32).toInt = (0 : Int32).toInt := fun z => hc_1432 ((fa_eq _ _).mpr z)
                    simp only [li_0] at ni_1433
                    have hv_1434 : zI x_1431 1 1 := zI.ne_lo hx_1431 zc_0 hc_1432 (by decide)
                    refine lv_iload hx hb d_Model_layStates_171 (lv_at hl 0 rfl) ?_
                    refine lv_aload_n hx hb d_Model_layStates_173 rfl (lv_at hl 4 rfl) ?_
                    refine va_get (D := G.1) (ci := 12) (v := .ref b24) (C := R_Model) (T := F_Model) (N := 54) hx hb hts i_Model hown hK hP 8 rfl rfl 21 (by decide) (hts _ q1130) (fun _ h9 => h9) rfl d_Model_layStates_174 ?_
                    refine lv_iload_n hx hb d_Model_layStates_177 rfl (lv_at hl 5 rfl) ?_
                    refine va_iald hx hb hK hP 3 0 rfl rfl (i := 0) (z_in rfl) d_Model_layStates_178 ?_
                    refine lv_topi (fun v_1435 ev_1435 => ?_)
                    obtain rfl : v_1393 = v_1435 := ev_1393.trans ev_1435.symm
                    refine lv_icmp_ne (tgt := 226) hx hb d_Model_layStates_179 (by decide) (fun hc_1436 => ?_) (fun hc_1436 => ?_)
                    · have _nhc_1436 := hc_1436
                      have ni_1437 : ¬ (y_1391 : Int32).toInt = (v_1393 : Int32).toInt := fun z => hc_1436 ((fa_eq _ _).mpr z)
                      refine lv_aload_n hx hb d_Model_layStates_226 rfl (lv_at hl 4 rfl) ?_
                      refine va_get (D := G.1) (ci := 12) (v := .ref b26) (C := R_Model) (T := F_Model) (N := 54) hx hb hts i_Model hown hK hP 8 rfl rfl 23 (by decide) (hts _ q1132) (fun _ h9 => h9) rfl d_Model_layStates_227 ?_
                      refine lv_iload hx hb d_Model_layStates_230 (lv_at hl 3 rfl) ?_
                      refine lv_iload hx hb d_Model_layStates_232 (lv_at hl 0 rfl) ?_
                      refine lv_iadd hx hb d_Model_layStates_234 ?_
                      refine lv_topi (fun v_1438 ev_1438 => ?_)
                      obtain rfl : v_1426 = v_1438 := ev_1426.trans ev_1438.symm
                      refine lv_dup2_11 hx hb d_Model_layStates_235 rfl rfl ?_
                      refine va_iald hx hb hK hP 5 0 rfl rfl (zI.inn hv_1426 (by decide)) d_Model_layStates_236 ?_
                      refine lv_topi (fun v_1439 ev_1439 => ?_)
                      refine lv_iconst (v := 1) hx hb d_Model_layStates_237 (by decide) ?_
                      refine lv_iadd hx hb d_Model_layStates_238 ?_
                      refine lv_topi (fun v_1440 ev_1440 => ?_)
                      refine va_iast hx hb hK hP hD hS 5 0 rfl rfl (zI.inn hv_1426 (by decide)) d_Model_layStates_239 (fun H locs hP hD hS => ?_)
                      obtain ⟨f_1441, gf_1441, uf_1441, hP, hD⟩ := z_newFu 5 hP hD rfl
                      have hP : va_P G.1 classes [(b18, .inl (G.2 0, 2, .inl b58)), (b20, .inl (G.2 0, 520, .inl b59)), (b23, .inl (G.2 0, 482, .inl y_1303)), (b24, .inl (G.2 0, 2, .inl y_1304)), (b25, .inl (G.2 0, 482, .inl y_1305)), (b26, .inl (G.2 0, 482, .inl f_1441)), (b27, .inl (G.2 0, 482, .inl y_1307)), (b4, .inl (G.2 0, 503, .inl b57)), (b0, .inr (12, [.int b3, .ref b4, .ref b5, .ref b6, .ref b7, .int b8, .ref b9, .int b10, .int b11, .int b12, .int b13, .ref b14, .ref b15, .ref b16, .int b17, .ref b18, .ref b19, .ref b20, .ref b21, .ref b22, .ref b23, .ref b24, .ref b25, .ref b26, .ref b27, .ref b28, .ref b29, .int b30, .ref b31, .ref b32, .int b33, .int b34, .int b35, .int b36, .ref b37, .ref b38, .ref b39, .ref b40, .ref b41, .ref b42, .ref b43, .int b44, .ref b45, .ref b46, .int b47, .ref b48, .ref b49, .ref b50, .ref b51, .ref b52, .int b53, .ref b54, .ref b55, .ref b56])), (b21, .inl (G.2 0, 9640, .inl y_763)), (b22, .inl (G.2 0, 482, .inl y_764))] H := hP
                      have hD := z_tie hP hD rfl
                      refine lv_aload_n hx hb d_Model_layStates_240 rfl (lv_at hl 4 rfl) ?_
                      refine va_get (D := G.1) (ci := 12) (v := .ref b23) (C := R_Model) (T := F_Model) (N := 54) hx hb hts i_Model hown hK hP 8 rfl rfl 20 (by decide) (hts _ q1129) (fun _ h9 => h9) rfl d_Model_layStates_241 ?_
                      refine lv_iload hx hb d_Model_layStates_244 (lv_at hl 3 rfl) ?_
                      refine lv_iload hx hb d_Model_layStates_246 (lv_at hl 1 rfl) ?_
                      refine lv_iadd hx hb d_Model_layStates_248 ?_
                      refine lv_topi (fun v_1442 ev_1442 => ?_)
                      obtain rfl : v_1429 = v_1442 := ev_1429.trans ev_1442.symm
                      refine lv_iload hx hb d_Model_layStates_249 (lv_at hl 0 rfl) ?_
                      refine va_iast hx hb hK hP hD hS 2 0 rfl rfl (zI.inn hv_1429 (by decide)) d_Model_layStates_251 (fun H locs hP hD hS => ?_)
                      obtain ⟨f_1443, hf_1443, gf_1443, uf_1443, hP, hD⟩ := z_newfu 2 hP hD rfl hy_1303 (zI.wk (l' := 0) (h' := 240) hv_1424 (by decide))
                      have hP : va_P G.1 classes [(b18, .inl (G.2 0, 2, .inl b58)), (b20, .inl (G.2 0, 520, .inl b59)), (b23, .inl (G.2 0, 482, .inl f_1443)), (b24, .inl (G.2 0, 2, .inl y_1304)), (b25, .inl (G.2 0, 482, .inl y_1305)), (b26, .inl (G.2 0, 482, .inl f_1441)), (b27, .inl (G.2 0, 482, .inl y_1307)), (b4, .inl (G.2 0, 503, .inl b57)), (b0, .inr (12, [.int b3, .ref b4, .ref b5, .ref b6, .ref b7, .int b8, .ref b9, .int b10, .int b11, .int b12, .int b13, .ref b14, .ref b15, .ref b16, .int b17, .ref b18, .ref b19, .ref b20, .ref b21, .ref b22, .ref b23, .ref b24, .ref b25, .ref b26, .ref b27, .ref b28, .ref b29, .int b30, .ref b31, .ref b32, .int b33, .int b34, .int b35, .int b36, .ref b37, .ref b38, .ref b39, .ref b40, .ref b41, .ref b42, .ref b43, .int b44, .ref b45, .ref b46, .int b47, .ref b48, .ref b49, .ref b50, .ref b51, .ref b52, .int b53, .ref b54, .ref b55, .ref b56])), (b21, .inl (G.2 0, 9640, .inl y_763)), (b22, .inl (G.2 0, 482, .inl y_764))] H := hP
                      have hD := z_tie hP hD rfl
                      obtain ⟨v_1444, ev_1444⟩ : ∃ z : Int32, z = y_1302 + 1 := ⟨_, rfl⟩
                      obtain ⟨qv_1444, hv_1444⟩ := zI_add (l := 1) (h := 241) hv_1316 zc_1 ev_1444 (by decide)
                      rw [li_1] at qv_1444
                      refine lv_iinc (v := v_1444) (lv' := [(6, .int v_1444), (7, .int y_1391), (5, .int 1), (4, .int 0), (0, .ref b0), (1, .int 0), (2, .int b1), (3, .int b2)]) hx hb d_Model_layStates_252 hl (k := 1) rfl (by rw [ev_1444]; rfl) (by decide) rfl (fun ls hl => ?_)
                      refine lv_goto (tgt := 110) hx hb d_Model_layStates_255 (by decide) ?_
                      exact ihk_1301 (v_1444) (f_1443) (y_1304) (y_1305) (f_1441) (y_1307) _ _ _ (zI.wk (l' := 0) (h' := 241) hv_1444 (by decide)) hf_1443 hy_1304 hy_1305 (by omega) (by have _l0 := li_0; have _l1 := li_1; have h8 : v_1393.toInt = (y_1304 (0 : Int32).toNatClampNeg).toInt := (by rw [ev_1393]); have p9 := z_pl hv_1429 (by decide); have w0 := hli_1308; have w1 := hli_1392; intro q hq; rw [uf_1443, z_at]; split; omega; have := hli_1309 q (by omega); omega) (by have _l0 := li_0; have _l1 := li_1; have h8 : v_1393.toInt = (y_1304 (0 : Int32).toNatClampNeg).toInt := (by rw [ev_1393]); have p9 := z_pl hv_1429 (by decide); have w0 := hli_1308; have w1 := hli_1392; intro hq; rw [uf_1443, z_at]; split; omega; exact hli_1310 (by omega)) hli_1311 (zm_up qv_1444 hmk_1301 (by decide)) (hP.sub [0, 1, 9, 10, 2, 3, 4, 5, 6, 8, 7] rfl) (hD.sub [0, 1, 9, 10, 2, 3, 4, 5, 6, 8, 7] (by decide) rfl) hS (lv_sub hl [0, 2, 3, 4, 5, 6, 7] rfl)
                    · have _nhc_1436 := hc_1436
                      have ni_1445 := (fa_eq _ _).mp hc_1436
                      refine lv_aload_n hx hb d_Model_layStates_182 rfl (lv_at hl 4 rfl) ?_
                      refine va_get (D := G.1) (ci := 12) (v := .ref b25) (C := R_Model) (T := F_Model) (N := 54) hx hb hts i_Model hown hK hP 8 rfl rfl 22 (by decide) (hts _ q1131) (fun _ h9 => h9) rfl d_Model_layStates_183 ?_
                      refine lv_iload hx hb d_Model_layStates_186 (lv_at hl 3 rfl) ?_
                      refine lv_iload hx hb d_Model_layStates_188 (lv_at hl 0 rfl) ?_
                      refine lv_iadd hx hb d_Model_layStates_190 ?_
                      refine lv_topi (fun v_1446 ev_1446 => ?_)
                      obtain rfl : v_1426 = v_1446 := ev_1426.trans ev_1446.symm
                      refine lv_iload hx hb d_Model_layStates_191 (lv_at hl 1 rfl) ?_
                      refine va_iast hx hb hK hP hD hS 4 0 rfl rfl (zI.inn hv_1426 (by decide)) d_Model_layStates_193 (fun H locs hP hD hS => ?_)
                      obtain ⟨f_1447, hf_1447, gf_1447, uf_1447, hP, hD⟩ := z_newfu 4 hP hD rfl hy_1305 hv_1316
                      have hP : va_P G.1 classes [(b18, .inl (G.2 0, 2, .inl b58)), (b20, .inl (G.2 0, 520, .inl b59)), (b23, .inl (G.2 0, 482, .inl y_1303)), (b24, .inl (G.2 0, 2, .inl y_1304)), (b25, .inl (G.2 0, 482, .inl f_1447)), (b26, .inl (G.2 0, 482, .inl y_1306)), (b27, .inl (G.2 0, 482, .inl y_1307)), (b4, .inl (G.2 0, 503, .inl b57)), (b0, .inr (12, [.int b3, .ref b4, .ref b5, .ref b6, .ref b7, .int b8, .ref b9, .int b10, .int b11, .int b12, .int b13, .ref b14, .ref b15, .ref b16, .int b17, .ref b18, .ref b19, .ref b20, .ref b21, .ref b22, .ref b23, .ref b24, .ref b25, .ref b26, .ref b27, .ref b28, .ref b29, .int b30, .ref b31, .ref b32, .int b33, .int b34, .int b35, .int b36, .ref b37, .ref b38, .ref b39, .ref b40, .ref b41, .ref b42, .ref b43, .int b44, .ref b45, .ref b46, .int b47, .ref b48, .ref b49, .ref b50, .ref b51, .ref b52, .int b53, .ref b54, .ref b55, .ref b56])), (b21, .inl (G.2 0, 9640, .inl y_763)), (b22, .inl (G.2 0, 482, .inl y_764))] H := hP
                      have hD := z_tie hP hD rfl
                      refine lv_aload_n hx hb d_Model_layStates_194 rfl (lv_at hl 4 rfl) ?_
                      refine va_get (D := G.1) (ci := 12) (v := .ref b26) (C := R_Model) (T := F_Model) (N := 54) hx hb hts i_Model hown hK hP 8 rfl rfl 23 (by decide) (hts _ q1132) (fun _ h9 => h9) rfl d_Model_layStates_195 ?_
                      refine lv_iload hx hb d_Model_layStates_198 (lv_at hl 3 rfl) ?_
                      refine lv_iload hx hb d_Model_layStates_200 (lv_at hl 0 rfl) ?_
                      refine lv_iadd hx hb d_Model_layStates_202 ?_
                      refine lv_topi (fun v_1448 ev_1448 => ?_)
                      obtain rfl : v_1426 = v_1448 := ev_1426.trans ev_1448.symm
                      refine lv_iconst (v := 0) hx hb d_Model_layStates_203 (by decide) ?_
                      refine va_iast hx hb hK hP hD hS 5 0 rfl rfl (zI.inn hv_1426 (by decide)) d_Model_layStates_204 (fun H locs hP hD hS => ?_)
                      obtain ⟨f_1449, gf_1449, uf_1449, hP, hD⟩ := z_newFu 5 hP hD rfl
                      have hP : va_P G.1 classes [(b18, .inl (G.2 0, 2, .inl b58)), (b20, .inl (G.2 0, 520, .inl b59)), (b23, .inl (G.2 0, 482, .inl y_1303)), (b24, .inl (G.2 0, 2, .inl y_1304)), (b25, .inl (G.2 0, 482, .inl f_1447)), (b26, .inl (G.2 0, 482, .inl f_1449)), (b27, .inl (G.2 0, 482, .inl y_1307)), (b4, .inl (G.2 0, 503, .inl b57)), (b0, .inr (12, [.int b3, .ref b4, .ref b5, .ref b6, .ref b7, .int b8, .ref b9, .int b10, .int b11, .int b12, .int b13, .ref b14, .ref b15, .ref b16, .int b17, .ref b18, .ref b19, .ref b20, .ref b21, .ref b22, .ref b23, .ref b24, .ref b25, .ref b26, .ref b27, .ref b28, .ref b29, .int b30, .ref b31, .ref b32, .int b33, .int b34, .int b35, .int b36, .ref b37, .ref b38, .ref b39, .ref b40, .ref b41, .ref b42, .ref b43, .int b44, .ref b45, .ref b46, .int b47, .ref b48, .ref b49, .ref b50, .ref b51, .ref b52, .int b53, .ref b54, .ref b55, .ref b56])), (b21, .inl (G.2 0, 9640, .inl y_763)), (b22, .inl (G.2 0, 482, .inl y_764))] H := hP
                      have hD := z_tie hP hD rfl
                      refine lv_aload_n hx hb d_Model_layStates_205 rfl (lv_at hl 4 rfl) ?_
                      refine va_get (D := G.1) (ci := 12) (v := .ref b27) (C := R_Model) (T := F_Model) (N := 54) hx hb hts i_Model hown hK hP 8 rfl rfl 24 (by decide) (hts _ q1133) (fun _ h9 => h9) rfl d_Model_layStates_206 ?_
                      refine lv_iload hx hb d_Model_layStates_209 (lv_at hl 3 rfl) ?_
                      refine lv_iload hx hb d_Model_layStates_211 (lv_at hl 0 rfl) ?_
                      refine lv_iadd hx hb d_Model_layStates_213 ?_
                      refine lv_topi (fun v_1450 ev_1450 => ?_)
                      obtain rfl : v_1426 = v_1450 := ev_1426.trans ev_1450.symm
                      refine lv_iconst (v := 0) hx hb d_Model_layStates_214 (by decide) ?_
                      refine va_iast hx hb hK hP hD hS 6 0 rfl rfl (zI.inn hv_1426 (by decide)) d_Model_layStates_215 (fun H locs hP hD hS => ?_)
                      obtain ⟨f_1451, gf_1451, uf_1451, hP, hD⟩ := z_newFu 6 hP hD rfl
                      have hP : va_P G.1 classes [(b18, .inl (G.2 0, 2, .inl b58)), (b20, .inl (G.2 0, 520, .inl b59)), (b23, .inl (G.2 0, 482, .inl y_1303)), (b24, .inl (G.2 0, 2, .inl y_1304)), (b25, .inl (G.2 0, 482, .inl f_1447)), (b26, .inl (G.2 0, 482, .inl f_1449)), (b27, .inl (G.2 0, 482, .inl f_1451)), (b4, .inl (G.2 0, 503, .inl b57)), (b0, .inr (12, [.int b3, .ref b4, .ref b5, .ref b6, .ref b7, .int b8, .ref b9, .int b10, .int b11, .int b12, .int b13, .ref b14, .ref b15, .ref b16, .int b17, .ref b18, .ref b19, .ref b20, .ref b21, .ref b22, .ref b23, .ref b24, .ref b25, .ref b26, .ref b27, .ref b28, .ref b29, .int b30, .ref b31, .ref b32, .int b33, .int b34, .int b35, .int b36, .ref b37, .ref b38, .ref b39, .ref b40, .ref b41, .ref b42, .ref b43, .int b44, .ref b45, .ref b46, .int b47, .ref b48, .ref b49, .ref b50, .ref b51, .ref b52, .int b53, .ref b54, .ref b55, .ref b56])), (b21, .inl (G.2 0, 9640, .inl y_763)), (b22, .inl (G.2 0, 482, .inl y_764))] H := hP
                      have hD := z_tie hP hD rfl
                      refine lv_aload_n hx hb d_Model_layStates_216 rfl (lv_at hl 4 rfl) ?_
                      refine va_get (D := G.1) (ci := 12) (v := .ref b24) (C := R_Model) (T := F_Model) (N := 54) hx hb hts i_Model hown hK hP 8 rfl rfl 21 (by decide) (hts _ q1130) (fun _ h9 => h9) rfl d_Model_layStates_217 ?_
                      refine lv_iload_n hx hb d_Model_layStates_220 rfl (lv_at hl 5 rfl) ?_
                      refine lv_dup2_11 hx hb d_Model_layStates_221 rfl rfl ?_
                      refine va_iald hx hb hK hP 3 0 rfl rfl (i := 0) (z_in rfl) d_Model_layStates_222 ?_
                      refine lv_topi (fun v_1452 ev_1452 => ?_)
                      obtain rfl : v_1393 = v_1452 := ev_1393.trans ev_1452.symm
                      refine lv_iconst (v := 1) hx hb d_Model_layStates_223 (by decide) ?_
                      refine lv_iadd hx hb d_Model_layStates_224 ?_
                      refine lv_topi (fun v_1453 ev_1453 => ?_)
                      obtain ⟨qv_1453, hv_1453⟩ := zI_add (l := 2) (h := 241) hv_1425 zc_1 ev_1453 (by decide)
                      rw [li_1] at qv_1453
                      refine va_iast hx hb hK hP hD hS 3 0 rfl rfl (i := 0) (z_in rfl) d_Model_layStates_225 (fun H locs hP hD hS => ?_)
                      obtain ⟨f_1454, hf_1454, gf_1454, uf_1454, hP, hD⟩ := z_newfu 3 hP hD rfl hy_1304 (zI.wk (l' := 0) (h' := 241) hv_1453 (by decide))
                      have hP : va_P G.1 classes [(b18, .inl (G.2 0, 2, .inl b58)), (b20, .inl (G.2 0, 520, .inl b59)), (b23, .inl (G.2 0, 482, .inl y_1303)), (b24, .inl (G.2 0, 2, .inl f_1454)), (b25, .inl (G.2 0, 482, .inl f_1447)), (b26, .inl (G.2 0, 482, .inl f_1449)), (b27, .inl (G.2 0, 482, .inl f_1451)), (b4, .inl (G.2 0, 503, .inl b57)), (b0, .inr (12, [.int b3, .ref b4, .ref b5, .ref b6, .ref b7, .int b8, .ref b9, .int b10, .int b11, .int b12, .int b13, .ref b14, .ref b15, .ref b16, .int b17, .ref b18, .ref b19, .ref b20, .ref b21, .ref b22, .ref b23, .ref b24, .ref b25, .ref b26, .ref b27, .ref b28, .ref b29, .int b30, .ref b31, .ref b32, .int b33, .int b34, .int b35, .int b36, .ref b37, .ref b38, .ref b39, .ref b40, .ref b41, .ref b42, .ref b43, .int b44, .ref b45, .ref b46, .int b47, .ref b48, .ref b49, .ref b50, .ref b51, .ref b52, .int b53, .ref b54, .ref b55, .ref b56])), (b21, .inl (G.2 0, 9640, .inl y_763)), (b22, .inl (G.2 0, 482, .inl y_764))] H := hP
                      have hD := z_tie hP hD rfl
                      refine lv_aload_n hx hb d_Model_layStates_226 rfl (lv_at hl 4 rfl) ?_
                      refine va_get (D := G.1) (ci := 12) (v := .ref b26) (C := R_Model) (T := F_Model) (N := 54) hx hb hts i_Model hown hK hP 8 rfl rfl 23 (by decide) (hts _ q1132) (fun _ h9 => h9) rfl d_Model_layStates_227 ?_
                      refine lv_iload hx hb d_Model_layStates_230 (lv_at hl 3 rfl) ?_
                      refine lv_iload hx hb d_Model_layStates_232 (lv_at hl 0 rfl) ?_
                      refine lv_iadd hx hb d_Model_layStates_234 ?_
                      refine lv_topi (fun v_1455 ev_1455 => ?_)
                      obtain rfl : v_1426 = v_1455 := ev_1426.trans ev_1455.symm
                      refine lv_dup2_11 hx hb d_Model_layStates_235 rfl rfl ?_
                      refine va_iald hx hb hK hP 5 0 rfl rfl (zI.inn hv_1426 (by decide)) d_Model_layStates_236 ?_
                      refine lv_topi (fun v_1456 ev_1456 => ?_)
                      obtain rfl : v_1456 = 0 := ev_1456.trans gf_1449
                      refine lv_iconst (v := 1) hx hb d_Model_layStates_237 (by decide) ?_
                      refine lv_iadd hx hb d_Model_layStates_238 ?_
                      refine z_topi (y := 1) (by decide +kernel) ?_
                      refine va_iast hx hb hK hP hD hS 5 0 rfl rfl (zI.inn hv_1426 (by decide)) d_Model_layStates_239 (fun H locs hP hD hS => ?_)
                      obtain ⟨f_1457, gf_1457, uf_1457, hP, hD⟩ := z_newFu 5 hP hD rfl
                      have hP : va_P G.1 classes [(b18, .inl (G.2 0, 2, .inl b58)), (b20, .inl (G.2 0, 520, .inl b59)), (b23, .inl (G.2 0, 482, .inl y_1303)), (b24, .inl (G.2 0, 2, .inl f_1454)), (b25, .inl (G.2 0, 482, .inl f_1447)), (b26, .inl (G.2 0, 482, .inl f_1457)), (b27, .inl (G.2 0, 482, .inl f_1451)), (b4, .inl (G.2 0, 503, .inl b57)), (b0, .inr (12, [.int b3, .ref b4, .ref b5, .ref b6, .ref b7, .int b8, .ref b9, .int b10, .int b11, .int b12, .int b13, .ref b14, .ref b15, .ref b16, .int b17, .ref b18, .ref b19, .ref b20, .ref b21, .ref b22, .ref b23, .ref b24, .ref b25, .ref b26, .ref b27, .ref b28, .ref b29, .int b30, .ref b31, .ref b32, .int b33, .int b34, .int b35, .int b36, .ref b37, .ref b38, .ref b39, .ref b40, .ref b41, .ref b42, .ref b43, .int b44, .ref b45, .ref b46, .int b47, .ref b48, .ref b49, .ref b50, .ref b51, .ref b52, .int b53, .ref b54, .ref b55, .ref b56])), (b21, .inl (G.2 0, 9640, .inl y_763)), (b22, .inl (G.2 0, 482, .inl y_764))] H := hP
                      have hD := z_tie hP hD rfl
                      refine lv_aload_n hx hb d_Model_layStates_240 rfl (lv_at hl 4 rfl) ?_
                      refine va_get (D := G.1) (ci := 12) (v := .ref b23) (C := R_Model) (T := F_Model) (N := 54) hx hb hts i_Model hown hK hP 8 rfl rfl 20 (by decide) (hts _ q1129) (fun _ h9 => h9) rfl d_Model_layStates_241 ?_
                      refine lv_iload hx hb d_Model_layStates_244 (lv_at hl 3 rfl) ?_
                      refine lv_iload hx hb d_Model_layStates_246 (lv_at hl 1 rfl) ?_
                      refine lv_iadd hx hb d_Model_layStates_248 ?_
                      refine lv_topi (fun v_1458 ev_1458 => ?_)
                      obtain rfl : v_1429 = v_1458 := ev_1429.trans ev_1458.symm
                      refine lv_iload hx hb d_Model_layStates_249 (lv_at hl 0 rfl) ?_
                      refine va_iast hx hb hK hP hD hS 2 0 rfl rfl (zI.inn hv_1429 (by decide)) d_Model_layStates_251 (fun H locs hP hD hS => ?_)
                      obtain ⟨f_1459, hf_1459, gf_1459, uf_1459, hP, hD⟩ := z_newfu 2 hP hD rfl hy_1303 (zI.wk (l' := 0) (h' := 240) hv_1424 (by decide))
                      have hP : va_P G.1 classes [(b18, .inl (G.2 0, 2, .inl b58)), (b20, .inl (G.2 0, 520, .inl b59)), (b23, .inl (G.2 0, 482, .inl f_1459)), (b24, .inl (G.2 0, 2, .inl f_1454)), (b25, .inl (G.2 0, 482, .inl f_1447)), (b26, .inl (G.2 0, 482, .inl f_1457)), (b27, .inl (G.2 0, 482, .inl f_1451)), (b4, .inl (G.2 0, 503, .inl b57)), (b0, .inr (12, [.int b3, .ref b4, .ref b5, .ref b6, .ref b7, .int b8, .ref b9, .int b10, .int b11, .int b12, .int b13, .ref b14, .ref b15, .ref b16, .int b17, .ref b18, .ref b19, .ref b20, .ref b21, .ref b22, .ref b23, .ref b24, .ref b25, .ref b26, .ref b27, .ref b28, .ref b29, .int b30, .ref b31, .ref b32, .int b33, .int b34, .int b35, .int b36, .ref b37, .ref b38, .ref b39, .ref b40, .ref b41, .ref b42, .ref b43, .int b44, .ref b45, .ref b46, .int b47, .ref b48, .ref b49, .ref b50, .ref b51, .ref b52, .int b53, .ref b54, .ref b55, .ref b56])), (b21, .inl (G.2 0, 9640, .inl y_763)), (b22, .inl (G.2 0, 482, .inl y_764))] H := hP
                      have hD := z_tie hP hD rfl
                      obtain ⟨v_1460, ev_1460⟩ : ∃ z : Int32, z = y_1302 + 1 := ⟨_, rfl⟩
                      obtain ⟨qv_1460, hv_1460⟩ := zI_add (l := 1) (h := 241) hv_1316 zc_1 ev_1460 (by decide)
                      rw [li_1] at qv_1460
                      refine lv_iinc (v := v_1460) (lv' := [(6, .int v_1460), (7, .int y_1391), (5, .int 1), (4, .int 0), (0, .ref b0), (1, .int 0), (2, .int b1), (3, .int b2)]) hx hb d_Model_layStates_252 hl (k := 1) rfl (by rw [ev_1460]; rfl) (by decide) rfl (fun ls hl => ?_)
                      refine lv_goto (tgt := 110) hx hb d_Model_layStates_255 (by decide) ?_
                      exact ihk_1301 (v_1460) (f_1459) (f_1454) (f_1447) (f_1457) (f_1451) _ _ _ (zI.wk (l' := 0) (h' := 241) hv_1460 (by decide)) hf_1459 hf_1454 hf_1447 (by rw [gf_1454]; omega) (by have _l0 := li_0; have _l1 := li_1; have h8 : v_1393.toInt = (y_1304 (0 : Int32).toNatClampNeg).toInt := (by rw [ev_1393]); have h7 := congrArg Int32.toInt gf_1454; have p9 := z_pl hv_1429 (by decide); have w0 := hli_1308; have w1 := hli_1392; intro q hq; rw [uf_1459, z_at]; split; omega; have := hli_1309 q (by omega); omega) (by have _l0 := li_0; have _l1 := li_1; have h8 : v_1393.toInt = (y_1304 (0 : Int32).toNatClampNeg).toInt := (by rw [ev_1393]); have h7 := congrArg Int32.toInt gf_1454; have p9 := z_pl hv_1429 (by decide); have w0 := hli_1308; have w1 := hli_1392; intro hq; rw [uf_1459, z_at]; split; omega; exact hli_1310 (by omega)) (by have _l0 := li_0; have _l1 := li_1; have h8 : v_1393.toInt = (y_1304 (0 : Int32).toNatClampNeg).toInt := (by rw [ev_1393]); have h7 := congrArg Int32.toInt gf_1454; have p9 := z_pl hv_1426 (by decide); have w1 := hli_1392; intro q hq; rw [uf_1451, z_at]; split; exact li_0; exact hli_1311 q (by omega)) (zm_up qv_1460 hmk_1301 (by decide)) (hP.sub [0, 1, 9, 10, 2, 3, 4, 5, 6, 8, 7] rfl) (hD.sub [0, 1, 9, 10, 2, 3, 4, 5, 6, 8, 7] (by decide) rfl) hS (lv_sub hl [0, 2, 3, 4, 5, 6, 7] rfl)
                  · have _nhc_1432 := hc_1432
                    have ni_1461 := (fa_eq _ _).mp hc_1432
                    rw [li_0] at ni_1461
                    have hv_1462 : zI x_1431 0 0 := zI.eq_l hx_1431 zc_0 hc_1432
                    obtain ⟨v_1463, ev_1463⟩ : ∃ z : Int32, z = y_1391 + 1 := ⟨_, rfl⟩
                    obtain ⟨qv_1463, hv_1463⟩ := zI_add (l := 1) (h := 240) hv_1424 zc_1 ev_1463 (by decide)
                    rw [li_1] at qv_1463
                    refine lv_iinc (v := v_1463) (lv' := [(7, .int v_1463), (6, .int y_1302), (5, .int 1), (4, .int 0), (0, .ref b0), (1, .int 0), (2, .int b1), (3, .int b2)]) hx hb d_Model_layStates_165 hl (k := 0) rfl (by rw [ev_1463]; rfl) (by decide) rfl (fun ls hl => ?_)
                    refine lv_goto (tgt := 129) hx hb d_Model_layStates_168 (by decide) ?_
                    exact ihk_1390 (v_1463) _ _ _ (zI.wk (l' := 0) (h' := 240) hv_1463 (by decide)) (by rw [← ev_1393]; omega) (zm_up qv_1463 hmk_1390 (by decide)) (hP.sub [0, 1, 9, 10, 2, 3, 4, 5, 6, 8, 7] rfl) (hD.sub [0, 1, 9, 10, 2, 3, 4, 5, 6, 8, 7] (by decide) rfl) hS (lv_sub hl [0, 1, 2, 3, 4, 5, 6, 7] rfl)
    · have _nhc_769 := hc_769
      have ni_1464 := (fa_lt _ _).mp (zi_nle hc_769)
      have hv_1465 : zI y_762 0 19 := zI.lt_l hy_762 hx_767 (zi_nle hc_769) (by decide)
      have hv_1466 : zI x_767 1 20 := zI.lt_r hy_762 hx_767 (zi_nle hc_769) (by decide)
      refine lv_iconst (v := 0) hx hb d_Model_layStates_19 (by decide) ?_
      refine lv_istore (lv' := [(6, .int 0), (5, .int y_762), (4, .int 0), (0, .ref b0), (1, .int 0), (2, .int b1), (3, .int b2)]) hx hb d_Model_layStates_20 hl (by decide) rfl (fun ls hl => ?_)
      suffices key : ∀ (k_1496 : Nat) (y_1497 : Int32) (y_1498 : Nat → Int32) (y_1499 : Nat → Int32) (H : Heap) (locs : List Loc) (ls : Array Slot), (zI y_1497 0 13) → (zqa qC y_1499) → (∀ q : Nat, (q : Int) < (b58 (0 : Int32).toNatClampNeg).toInt → (y_1499 (0 + q)).toInt = 0 ∨ (y_1499 (0 + q)).toInt + (q : Int) ≤ 13 * (y_762 : Int32).toInt + (y_1497 : Int32).toInt) → (13 : Int) - y_1497.toInt < (k_1496 : Int) → va_P G.1 classes [(b18, .inl (G.2 0, 2, .inl b58)), (b20, .inl (G.2 0, 520, .inl b59)), (b21, .inl (G.2 0, 9640, .inl y_1498)), (b22, .inl (G.2 0, 482, .inl y_1499)), (b23, .inl (G.2 0, 482, .inl b62)), (b24, .inl (G.2 0, 2, .inl b63)), (b25, .inl (G.2 0, 482, .inl b64)), (b26, .inl (G.2 0, 482, .inl b65)), (b27, .inl (G.2 0, 482, .inl b66)), (b0, .inr (12, [.int b3, .ref b4, .ref b5, .ref b6, .ref b7, .int b8, .ref b9, .int b10, .int b11, .int b12, .int b13, .ref b14, .ref b15, .ref b16, .int b17, .ref b18, .ref b19, .ref b20, .ref b21, .ref b22, .ref b23, .ref b24, .ref b25, .ref b26, .ref b27, .ref b28, .ref b29, .int b30, .ref b31, .ref b32, .int b33, .int b34, .int b35, .int b36, .ref b37, .ref b38, .ref b39, .ref b40, .ref b41, .ref b42, .ref b43, .int b44, .ref b45, .ref b46, .int b47, .ref b48, .ref b49, .ref b50, .ref b51, .ref b52, .int b53, .ref b54, .ref b55, .ref b56])), (b4, .inl (G.2 0, 503, .inl b57))] H → va_D A [(b18, .inl (G.2 0, 2, .inl b58)), (b20, .inl (G.2 0, 520, .inl b59)), (b21, .inl (G.2 0, 9640, .inl y_1498)), (b22, .inl (G.2 0, 482, .inl y_1499)), (b23, .inl (G.2 0, 482, .inl b62)), (b24, .inl (G.2 0, 2, .inl b63)), (b25, .inl (G.2 0, 482, .inl b64)), (b26, .inl (G.2 0, 482, .inl b65)), (b27, .inl (G.2 0, 482, .inl b66)), (b0, .inr (12, [.int b3, .ref b4, .ref b5, .ref b6, .ref b7, .int b8, .ref b9, .int b10, .int b11, .int b12, .int b13, .ref b14, .ref b15, .ref b16, .int b17, .ref b18, .ref b19, .ref b20, .ref b21, .ref b22, .ref b23, .ref b24, .ref b25, .ref b26, .ref b27, .ref b28, .ref b29, .int b30, .ref b31, .ref b32, .int b33, .int b34, .int b35, .int b36, .ref b37, .ref b38, .ref b39, .ref b40, .ref b41, .ref b42, .ref b43, .int b44, .ref b45, .ref b46, .int b47, .ref b48, .ref b49, .ref b50, .ref b51, .ref b52, .int b53, .ref b54, .ref b55, .ref b56])), (b4, .inl (G.2 0, 503, .inl b57))] → va_S A s.heap H locs → lv_has ls 8 [(6, .int y_1497), (5, .int y_762), (4, .int 0), (0, .ref b0), (1, .int 0), (2, .int b1), (3, .int b2)] → W p l e m_s1_Model_layStates s m ([.ref b0, .int 0, .int b1, .int b2] : List Value).toArray below meth c H locs 0 0 (MQ below (zQ G (fun v w => ∃ (e0 : Nat → Int32), ∃ (e1 : Nat → Int32), ∃ (e2 : Nat → Int32), ∃ (e3 : Nat → Int32), ∃ (e4 : Nat → Int32), ∃ (e5 : Nat → Int32), ∃ (e6 : Nat → Int32), v = none ∧ w = [(b0, .inr (12, [.int b3, .ref b4, .ref b5, .ref b6, .ref b7, .int b8, .ref b9, .int b10, .int b11, .int b12, .int b13, .ref b14, .ref b15, .ref b16, .int b17, .ref b18, .ref b19, .ref b20, .ref b21, .ref b22, .ref b23, .ref b24, .ref b25, .ref b26, .ref b27, .ref b28, .ref b29, .int b30, .ref b31, .ref b32, .int b33, .int b34, .int b35, .int b36, .ref b37, .ref b38, .ref b39, .ref b40, .ref b41, .ref b42, .ref b43, .int b44, .ref b45, .ref b46, .int b47, .ref b48, .ref b49, .ref b50, .ref b51, .ref b52, .int b53, .ref b54, .ref b55, .ref b56])), (b4, .inl (G.2 0, 503, .inl b57)), (b18, .inl (G.2 0, 2, .inl b58)), (b20, .inl (G.2 0, 520, .inl b59)), (b21, .inl (G.2 0, 9640, .inl e0)), (b22, .inl (G.2 0, 482, .inl e1)), (b23, .inl (G.2 0, 482, .inl e2)), (b24, .inl (G.2 0, 2, .inl e3)), (b25, .inl (G.2 0, 482, .inl e4)), (b26, .inl (G.2 0, 482, .inl e5)), (b27, .inl (G.2 0, 482, .inl e6))] ∧ (zqa qC e1) ∧ (zR e2 0 240) ∧ (zR e3 0 241) ∧ (zR e4 0 240) ∧ ((b2 : Int32).toInt = -1 → 1 ≤ (b57 (0 : Int32).toNatClampNeg).toInt → 1 ≤ (b58 (0 : Int32).toNatClampNeg).toInt → ∀ p : Nat, (p : Int) < (b58 (0 : Int32).toNatClampNeg).toInt → (e2 p).toInt < (e3 (0 : Int32).toNatClampNeg).toInt) ∧ ((b2 : Int32).toInt = -1 → 1 ≤ (b57 (0 : Int32).toNatClampNeg).toInt → 1 ≤ (b58 (0 : Int32).toNatClampNeg).toInt → (e2 0).toInt = 0) ∧ (∀ s : Nat, (s : Int) < (e3 (0 : Int32).toNatClampNeg).toInt → (e6 s).toInt = 0)) A) ([.ref b0, .int 0, .int b1, .int b2] : List Value).toArray s m_s1_Model_layStates.cells m_s1_Model_layStates.slots A) (F0 m 22 ls []) by
        exact key 14 (0) (y_763) (y_764) _ _ _ (zI.wk (l' := 0) (h' := 13) zc_0 (by decide)) hy_764 (by have _l0 := li_0; intro q hq; have := hli_765 q hq; omega) (zm_upi (zI.wk (l' := 0) (h' := 13) zc_0 (by decide)) (by decide)) hP hD hS (lv_sub hl [0, 1, 2, 3, 4, 5, 6] rfl)
      intro k_1496
      induction k_1496 with
      | zero =>
        intro y_1497 y_1498 y_1499 H locs ls hy_1497 hy_1499 hli_1500 hmk_1496 hP hD hS hl
        exact (zm_up0 hy_1497 hmk_1496).elim
      | succ k_1496 ihk_1496 =>
        intro y_1497 y_1498 y_1499 H locs ls hy_1497 hy_1499 hli_1500 hmk_1496 hP hD hS hl
        refine lv_iload hx hb d_Model_layStates_22 (lv_at hl 0 rfl) ?_
        refine lv_aload_n hx hb d_Model_layStates_24 rfl (lv_at hl 3 rfl) ?_
        refine lv_iload hx hb d_Model_layStates_25 (lv_at hl 1 rfl) ?_
        refine z_callV (index := 203) (As := [.int y_762]) (rest := [.int y_1497]) (wr := [(b18, .inl (G.2 0, 2, .inl b58)), (b20, .inl (G.2 0, 520, .inl b59)), (b21, .inl (G.2 0, 9640, .inl y_1498)), (b22, .inl (G.2 0, 482, .inl y_1499)), (b23, .inl (G.2 0, 482, .inl b62)), (b24, .inl (G.2 0, 2, .inl b63)), (b25, .inl (G.2 0, 482, .inl b64)), (b26, .inl (G.2 0, 482, .inl b65)), (b27, .inl (G.2 0, 482, .inl b66))]) Z (s1_Model_calls l G (b0) (y_762) (b3) (b4) (b5) (b6) (b7) (b8) (b9) (b10) (b11) (b12) (b13) (b14) (b15) (b16) (b17) (b18) (b19) (b20) (b21) (b22) (b23) (b24) (b25) (b26) (b27) (b28) (b29) (b30) (b31) (b32) (b33) (b34) (b35) (b36) (b37) (b38) (b39) (b40) (b41) (b42) (b43) (b44) (b45) (b46) (b47) (b48) (b49) (b50) (b51) (b52) (b53) (b54) (b55) (b56) (b57) hv_1465 hb8 hb10 hb11 hb13 hb17 hb30 hb33 hb44 hb47 hb53 hb57) hl.1 q1352 q1354 qs54 q14 q1355 ⟨by decide, by decide, by show _ = some 1; decide +kernel⟩ ⟨Nat.le_of_ble_eq_true rfl, Nat.le_of_ble_eq_true rfl⟩ ⟨Nat.le_of_ble_eq_true rfl, Nat.le_of_ble_eq_true rfl⟩ rfl (Nat.le_of_ble_eq_true rfl) d_Model_layStates_27 hP hD hS hA 9 12 rfl rfl rfl [9, 10] [0, 1, 2, 3, 4, 5, 6, 7, 8] rfl rfl rfl rfl (by decide) (fun v w1 H locs hw_1501 hP hD hS => ?_)
        obtain ⟨x_1502, rfl, rfl, hx_1502, hfx_1503⟩ := hw_1501
        have hP : va_P G.1 classes [(b18, .inl (G.2 0, 2, .inl b58)), (b20, .inl (G.2 0, 520, .inl b59)), (b21, .inl (G.2 0, 9640, .inl y_1498)), (b22, .inl (G.2 0, 482, .inl y_1499)), (b23, .inl (G.2 0, 482, .inl b62)), (b24, .inl (G.2 0, 2, .inl b63)), (b25, .inl (G.2 0, 482, .inl b64)), (b26, .inl (G.2 0, 482, .inl b65)), (b27, .inl (G.2 0, 482, .inl b66)), (b0, .inr (12, [.int b3, .ref b4, .ref b5, .ref b6, .ref b7, .int b8, .ref b9, .int b10, .int b11, .int b12, .int b13, .ref b14, .ref b15, .ref b16, .int b17, .ref b18, .ref b19, .ref b20, .ref b21, .ref b22, .ref b23, .ref b24, .ref b25, .ref b26, .ref b27, .ref b28, .ref b29, .int b30, .ref b31, .ref b32, .int b33, .int b34, .int b35, .int b36, .ref b37, .ref b38, .ref b39, .ref b40, .ref b41, .ref b42, .ref b43, .int b44, .ref b45, .ref b46, .int b47, .ref b48, .ref b49, .ref b50, .ref b51, .ref b52, .int b53, .ref b54, .ref b55, .ref b56])), (b4, .inl (G.2 0, 503, .inl b57))] H := hP
        have hD := z_tie hP hD rfl
        refine W.widen (k := 0) (n := 0) (Nat.le_of_ble_eq_true rfl) (Nat.le_of_ble_eq_true rfl) ?_
        refine lv_icmp_gt (tgt := 70) hx hb d_Model_layStates_30 (by decide) (fun hc_1504 => ?_) (fun hc_1504 => ?_)
        · have _nhc_1504 := hc_1504
          have ni_1505 := (fa_lt _ _).mp hc_1504
          have hv_1506 : zI y_1497 1 13 := zI.lt_r hx_1502 hy_1497 hc_1504 (by decide)
          obtain ⟨v_1507, ev_1507⟩ : ∃ z : Int32, z = y_762 + 1 := ⟨_, rfl⟩
          obtain ⟨qv_1507, hv_1507⟩ := zI_add (l := 1) (h := 20) hv_1465 zc_1 ev_1507 (by decide)
          rw [li_1] at qv_1507
          refine lv_iinc (v := v_1507) (lv' := [(5, .int v_1507), (6, .int y_1497), (4, .int 0), (0, .ref b0), (1, .int 0), (2, .int b1), (3, .int b2)]) hx hb d_Model_layStates_70 hl (k := 1) rfl (by rw [ev_1507]; rfl) (by decide) rfl (fun ls hl => ?_)
          refine lv_goto (tgt := 10) hx hb d_Model_layStates_73 (by decide) ?_
          exact ihk_761 (v_1507) (y_1498) (y_1499) _ _ _ (zI.wk (l' := 0) (h' := 20) hv_1507 (by decide)) hy_1499 (by intro q hq; have := hli_1500 q hq; omega) (zm_up qv_1507 hmk_761 (by decide)) (hP.sub [9, 10, 0, 1, 2, 3, 4, 5, 6, 7, 8] rfl) (hD.sub [9, 10, 0, 1, 2, 3, 4, 5, 6, 7, 8] (by decide) rfl) hS (lv_sub hl [0, 2, 3, 4, 5, 6] rfl)
        · have _nhc_1504 := hc_1504
          have ni_1508 := (fa_le _ _).mp (zi_nlt hc_1504)
          have hv_1509 : zI y_1497 0 12 := zI.le_l hy_1497 hx_1502 (zi_nlt hc_1504) (by decide)
          refine lv_iload hx hb d_Model_layStates_33 (lv_at hl 1 rfl) ?_
          refine lv_iload_n hx hb d_Model_layStates_35 rfl (lv_at hl 6 rfl) ?_
          refine lv_icmp_eq (tgt := 70) hx hb d_Model_layStates_36 (by decide) (fun hc_1510 => ?_) (fun hc_1510 => ?_)
          · have _nhc_1510 := hc_1510
            have ni_1511 := (fa_eq _ _).mp hc_1510
            have hv_1512 : zI b2 0 19 := zI.eq_l hb2 hv_1465 hc_1510.symm
            obtain ⟨v_1513, ev_1513⟩ : ∃ z : Int32, z = y_762 + 1 := ⟨_, rfl⟩
            obtain ⟨qv_1513, hv_1513⟩ := zI_add (l := 1) (h := 20) hv_1465 zc_1 ev_1513 (by decide)
            rw [li_1] at qv_1513
            refine lv_iinc (v := v_1513) (lv' := [(5, .int v_1513), (6, .int y_1497), (4, .int 0), (0, .ref b0), (1, .int 0), (2, .int b1), (3, .int b2)]) hx hb d_Model_layStates_70 hl (k := 1) rfl (by rw [ev_1513]; rfl) (by decide) rfl (fun ls hl => ?_)
            refine lv_goto (tgt := 10) hx hb d_Model_layStates_73 (by decide) ?_
            exact ihk_761 (v_1513) (y_1498) (y_1499) _ _ _ (zI.wk (l' := 0) (h' := 20) hv_1513 (by decide)) hy_1499 (by intro q hq; have := hli_1500 q hq; omega) (zm_up qv_1513 hmk_761 (by decide)) (hP.sub [9, 10, 0, 1, 2, 3, 4, 5, 6, 7, 8] rfl) (hD.sub [9, 10, 0, 1, 2, 3, 4, 5, 6, 7, 8] (by decide) rfl) hS (lv_sub hl [0, 2, 3, 4, 5, 6] rfl)
          · have _nhc_1510 := hc_1510
            have ni_1514 : ¬ (y_762 : Int32).toInt = (b2 : Int32).toInt := fun z => hc_1510 ((fa_eq _ _).mpr z)
            refine lv_aload_n hx hb d_Model_layStates_39 rfl (lv_at hl 3 rfl) ?_
            refine lv_iload hx hb d_Model_layStates_40 (lv_at hl 2 rfl) ?_
            refine lv_aload_n hx hb d_Model_layStates_42 rfl (lv_at hl 3 rfl) ?_
            refine lv_iload_n hx hb d_Model_layStates_43 rfl (lv_at hl 4 rfl) ?_
            refine lv_iload hx hb d_Model_layStates_44 (lv_at hl 1 rfl) ?_
            refine lv_iload hx hb d_Model_layStates_46 (lv_at hl 0 rfl) ?_
            refine z_callV (index := 211) (As := [.int 0, .int y_762, .int y_1497]) (rest := [.int 0, .ref b0]) (wr := [(b18, .inl (G.2 0, 2, .inl b58)), (b21, .inl (G.2 0, 9640, .inl y_1498)), (b22, .inl (G.2 0, 482, .inl y_1499)), (b23, .inl (G.2 0, 482, .inl b62)), (b24, .inl (G.2 0, 2, .inl b63)), (b25, .inl (G.2 0, 482, .inl b64)), (b26, .inl (G.2 0, 482, .inl b65)), (b27, .inl (G.2 0, 482, .inl b66)), (b4, .inl (G.2 0, 503, .inl b57))]) Z (s1_Model_pathOf l G (b0) (y_762) (y_1497) (b3) (b4) (b5) (b6) (b7) (b8) (b9) (b10) (b11) (b12) (b13) (b14) (b15) (b16) (b17) (b18) (b19) (b20) (b21) (b22) (b23) (b24) (b25) (b26) (b27) (b28) (b29) (b30) (b31) (b32) (b33) (b34) (b35) (b36) (b37) (b38) (b39) (b40) (b41) (b42) (b43) (b44) (b45) (b46) (b47) (b48) (b49) (b50) (b51) (b52) (b53) (b54) (b55) (b56) (b59) hv_1465 hv_1509 hb8 hb10 hb11 hb13 hb17 hb30 hb33 hb44 hb47 hb53 hb59) hl.1 q1380 q1382 qs61 q14 q1383 ⟨by decide, by decide, by show _ = some 3; decide +kernel⟩ ⟨Nat.le_of_ble_eq_true rfl, Nat.le_of_ble_eq_true rfl⟩ ⟨Nat.le_of_ble_eq_true rfl, Nat.le_of_ble_eq_true rfl⟩ rfl (Nat.le_of_ble_eq_true rfl) d_Model_layStates_48 hP hD hS hA 9 12 rfl rfl rfl [9, 1] [0, 2, 3, 4, 5, 6, 7, 8, 10] rfl rfl rfl rfl (by decide) (fun v w1 H locs hw_1515 hP hD hS => ?_)
            obtain ⟨x_1516, rfl, rfl, hx_1516, hfx_1517, hfx_1518⟩ := hw_1515
            have hP : va_P G.1 classes [(b18, .inl (G.2 0, 2, .inl b58)), (b21, .inl (G.2 0, 9640, .inl y_1498)), (b22, .inl (G.2 0, 482, .inl y_1499)), (b23, .inl (G.2 0, 482, .inl b62)), (b24, .inl (G.2 0, 2, .inl b63)), (b25, .inl (G.2 0, 482, .inl b64)), (b26, .inl (G.2 0, 482, .inl b65)), (b27, .inl (G.2 0, 482, .inl b66)), (b4, .inl (G.2 0, 503, .inl b57)), (b0, .inr (12, [.int b3, .ref b4, .ref b5, .ref b6, .ref b7, .int b8, .ref b9, .int b10, .int b11, .int b12, .int b13, .ref b14, .ref b15, .ref b16, .int b17, .ref b18, .ref b19, .ref b20, .ref b21, .ref b22, .ref b23, .ref b24, .ref b25, .ref b26, .ref b27, .ref b28, .ref b29, .int b30, .ref b31, .ref b32, .int b33, .int b34, .int b35, .int b36, .ref b37, .ref b38, .ref b39, .ref b40, .ref b41, .ref b42, .ref b43, .int b44, .ref b45, .ref b46, .int b47, .ref b48, .ref b49, .ref b50, .ref b51, .ref b52, .int b53, .ref b54, .ref b55, .ref b56])), (b20, .inl (G.2 0, 520, .inl b59))] H := hP
            have hD := z_tie hP hD rfl
            refine W.widen (k := 0) (n := 0) (Nat.le_of_ble_eq_true rfl) (Nat.le_of_ble_eq_true rfl) ?_
            refine lv_iadd hx hb d_Model_layStates_51 ?_
            refine lv_topi (fun v_1519 ev_1519 => ?_)
            obtain ⟨qv_1519, hv_1519⟩ := zI_add (l := 0) (h := 240) zc_0 hx_1516 ev_1519 (by decide)
            rw [li_0] at qv_1519
            refine lv_aload_n hx hb d_Model_layStates_52 rfl (lv_at hl 3 rfl) ?_
            refine lv_iload hx hb d_Model_layStates_53 (lv_at hl 1 rfl) ?_
            refine lv_iload hx hb d_Model_layStates_55 (lv_at hl 0 rfl) ?_
            refine lv_iload_n hx hb d_Model_layStates_57 rfl (lv_at hl 5 rfl) ?_
            refine z_callV (index := 214) (As := [.int y_762, .int y_1497, .int b1]) (rest := [.int v_1519, .ref b0]) (wr := [(b18, .inl (G.2 0, 2, .inl b58)), (b21, .inl (G.2 0, 9640, .inl y_1498)), (b22, .inl (G.2 0, 482, .inl y_1499)), (b23, .inl (G.2 0, 482, .inl b62)), (b24, .inl (G.2 0, 2, .inl b63)), (b25, .inl (G.2 0, 482, .inl b64)), (b26, .inl (G.2 0, 482, .inl b65)), (b27, .inl (G.2 0, 482, .inl b66)), (b20, .inl (G.2 0, 520, .inl b59))]) Z (s1_Model_rowBehind l G (b0) (y_762) (y_1497) (b1) (b3) (b4) (b5) (b6) (b7) (b8) (b9) (b10) (b11) (b12) (b13) (b14) (b15) (b16) (b17) (b18) (b19) (b20) (b21) (b22) (b23) (b24) (b25) (b26) (b27) (b28) (b29) (b30) (b31) (b32) (b33) (b34) (b35) (b36) (b37) (b38) (b39) (b40) (b41) (b42) (b43) (b44) (b45) (b46) (b47) (b48) (b49) (b50) (b51) (b52) (b53) (b54) (b55) (b56) (b57) hv_1465 hv_1509 hb1 hb8 hb10 hb11 hb13 hb17 hb30 hb33 hb44 hb47 hb53 hb57) hl.1 q1384 q1386 qs62 q14 q1387 ⟨by decide, by decide, by show _ = some 3; decide +kernel⟩ ⟨Nat.le_of_ble_eq_true rfl, Nat.le_of_ble_eq_true rfl⟩ ⟨Nat.le_of_ble_eq_true rfl, Nat.le_of_ble_eq_true rfl⟩ rfl (Nat.le_of_ble_eq_true rfl) d_Model_layStates_58 hP hD hS hA 9 12 rfl rfl rfl [9, 8] [0, 1, 2, 3, 4, 5, 6, 7, 10] rfl rfl rfl rfl (by decide) (fun v w1 H locs hw_1520 hP hD hS => ?_)
            obtain ⟨x_1521, rfl, rfl⟩ := hw_1520
            have hP : va_P G.1 classes [(b18, .inl (G.2 0, 2, .inl b58)), (b21, .inl (G.2 0, 9640, .inl y_1498)), (b22, .inl (G.2 0, 482, .inl y_1499)), (b23, .inl (G.2 0, 482, .inl b62)), (b24, .inl (G.2 0, 2, .inl b63)), (b25, .inl (G.2 0, 482, .inl b64)), (b26, .inl (G.2 0, 482, .inl b65)), (b27, .inl (G.2 0, 482, .inl b66)), (b20, .inl (G.2 0, 520, .inl b59)), (b0, .inr (12, [.int b3, .ref b4, .ref b5, .ref b6, .ref b7, .int b8, .ref b9, .int b10, .int b11, .int b12, .int b13, .ref b14, .ref b15, .ref b16, .int b17, .ref b18, .ref b19, .ref b20, .ref b21, .ref b22, .ref b23, .ref b24, .ref b25, .ref b26, .ref b27, .ref b28, .ref b29, .int b30, .ref b31, .ref b32, .int b33, .int b34, .int b35, .int b36, .ref b37, .ref b38, .ref b39, .ref b40, .ref b41, .ref b42, .ref b43, .int b44, .ref b45, .ref b46, .int b47, .ref b48, .ref b49, .ref b50, .ref b51, .ref b52, .int b53, .ref b54, .ref b55, .ref b56])), (b4, .inl (G.2 0, 503, .inl b57))] H := hP
            have hD := z_tie hP hD rfl
            refine W.widen (k := 0) (n := 0) (Nat.le_of_ble_eq_true rfl) (Nat.le_of_ble_eq_true rfl) ?_
            refine z_callV (index := 217) (As := [.int v_1519, .int x_1521]) (rest := []) (wr := [(b18, .inl (G.2 0, 2, .inl b58)), (b23, .inl (G.2 0, 482, .inl b62)), (b24, .inl (G.2 0, 2, .inl b63)), (b25, .inl (G.2 0, 482, .inl b64)), (b26, .inl (G.2 0, 482, .inl b65)), (b27, .inl (G.2 0, 482, .inl b66)), (b20, .inl (G.2 0, 520, .inl b59)), (b4, .inl (G.2 0, 503, .inl b57))]) Z (s1_Model_addFollow l G (b0) (v_1519) (x_1521) (b3) (b4) (b5) (b6) (b7) (b8) (b9) (b10) (b11) (b12) (b13) (b14) (b15) (b16) (b17) (b18) (b19) (b20) (b21) (b22) (b23) (b24) (b25) (b26) (b27) (b28) (b29) (b30) (b31) (b32) (b33) (b34) (b35) (b36) (b37) (b38) (b39) (b40) (b41) (b42) (b43) (b44) (b45) (b46) (b47) (b48) (b49) (b50) (b51) (b52) (b53) (b54) (b55) (b56) (y_1498) (y_1499) (zI.wk (l' := 0) (h' := 481) hv_1519 (by decide)) hb8 hb10 hb11 hb13 hb17 hb30 hb33 hb44 hb47 hb53 hy_1499 (by have p9 := z_pl hv_1519 (by decide); have p7 := z_pl hx_1516 (by decide); have p8 : x_1516.toInt < (b58 (0 : Int32).toNatClampNeg).toInt := (by rw [hfx_1517]; exact htm _ _ (by rw [← hfx_768]; omega) (by omega) (by rw [← hfx_1503]; omega)); have p6 : v_1519.toNatClampNeg = 0 + x_1516.toNatClampNeg := (by omega); have := hli_1500 x_1516.toNatClampNeg (by omega); rw [← p6] at this; omega)) hl.1 q1388 q1390 qs63 q14 q1391 ⟨by decide, by decide, by show _ = some 2; decide +kernel⟩ ⟨Nat.le_of_ble_eq_true rfl, Nat.le_of_ble_eq_true rfl⟩ ⟨Nat.le_of_ble_eq_true rfl, Nat.le_of_ble_eq_true rfl⟩ rfl (Nat.le_of_ble_eq_true rfl) d_Model_layStates_61 hP hD hS hA 9 12 rfl rfl rfl [9, 1, 2] [0, 3, 4, 5, 6, 7, 8, 10] rfl rfl rfl rfl (by decide) (fun v w1 H locs hw_1522 hP hD hS => ?_)
            obtain ⟨f_1523, f_1524, rfl, rfl, hf_1524, hfx_1525⟩ := hw_1522
            have hP : va_P G.1 classes [(b18, .inl (G.2 0, 2, .inl b58)), (b23, .inl (G.2 0, 482, .inl b62)), (b24, .inl (G.2 0, 2, .inl b63)), (b25, .inl (G.2 0, 482, .inl b64)), (b26, .inl (G.2 0, 482, .inl b65)), (b27, .inl (G.2 0, 482, .inl b66)), (b20, .inl (G.2 0, 520, .inl b59)), (b4, .inl (G.2 0, 503, .inl b57)), (b0, .inr (12, [.int b3, .ref b4, .ref b5, .ref b6, .ref b7, .int b8, .ref b9, .int b10, .int b11, .int b12, .int b13, .ref b14, .ref b15, .ref b16, .int b17, .ref b18, .ref b19, .ref b20, .ref b21, .ref b22, .ref b23, .ref b24, .ref b25, .ref b26, .ref b27, .ref b28, .ref b29, .int b30, .ref b31, .ref b32, .int b33, .int b34, .int b35, .int b36, .ref b37, .ref b38, .ref b39, .ref b40, .ref b41, .ref b42, .ref b43, .int b44, .ref b45, .ref b46, .int b47, .ref b48, .ref b49, .ref b50, .ref b51, .ref b52, .int b53, .ref b54, .ref b55, .ref b56])), (b21, .inl (G.2 0, 9640, .inl f_1523)), (b22, .inl (G.2 0, 482, .inl f_1524))] H := hP
            have hD := z_tie hP hD rfl
            refine W.widen (k := 0) (n := 0) (Nat.le_of_ble_eq_true rfl) (Nat.le_of_ble_eq_true rfl) ?_
            obtain ⟨v_1526, ev_1526⟩ : ∃ z : Int32, z = y_1497 + 1 := ⟨_, rfl⟩
            obtain ⟨qv_1526, hv_1526⟩ := zI_add (l := 1) (h := 13) hv_1509 zc_1 ev_1526 (by decide)
            rw [li_1] at qv_1526
            refine lv_iinc (v := v_1526) (lv' := [(6, .int v_1526), (5, .int y_762), (4, .int 0), (0, .ref b0), (1, .int 0), (2, .int b1), (3, .int b2)]) hx hb d_Model_layStates_64 hl (k := 0) rfl (by rw [ev_1526]; rfl) (by decide) rfl (fun ls hl => ?_)
            refine lv_goto (tgt := 22) hx hb d_Model_layStates_67 (by decide) ?_
            exact ihk_1496 (v_1526) (f_1523) (f_1524) _ _ _ (zI.wk (l' := 0) (h' := 13) hv_1526 (by decide)) hf_1524 (by have _l0 := li_0; have _l1 := li_1; have p9 := z_pl hv_1519 (by decide); intro q hq; have _a := hli_1500 q hq; have _b := hfx_1518; rcases hfx_1525 (0 + q) with h | ⟨h, h2⟩ <;> omega) (zm_up qv_1526 hmk_1496 (by decide)) (hP.sub [0, 6, 9, 10, 1, 2, 3, 4, 5, 8, 7] rfl) (hD.sub [0, 6, 9, 10, 1, 2, 3, 4, 5, 8, 7] (by decide) rfl) hS (lv_sub hl [0, 1, 2, 3, 4, 5, 6] rfl)
abbrev m_s2_Model_layStates : Room := { frames := 2, cells := 0, slots := 0, locals := 48 }
set_option maxHeartbeats 4000000 in
set_option maxRecDepth 100000 in
theorem s2_Model_layStates (l : Launch) (G : zG) (b0 : Nat) (b1 : Int32) (b2 : Int32) (b3 : Int32) (b4 : Nat) (b5 : Nat) (b6 : Nat) (b7 : Nat) (b8 : Int32) (b9 : Nat) (b10 : Int32) (b11 : Int32) (b12 : Int32) (b13 : Int32) (b14 : Nat) (b15 : Nat) (b16 : Nat) (b17 : Int32) (b18 : Nat) (b19 : Nat) (b20 : Nat) (b21 : Nat) (b22 : Nat) (b23 : Nat) (b24 : Nat) (b25 : Nat) (b26 : Nat) (b27 : Nat) (b28 : Nat) (b29 : Nat) (b30 : Int32) (b31 : Nat) (b32 : Nat) (b33 : Int32) (b34 : Int32) (b35 : Int32) (b36 : Int32) (b37 : Nat) (b38 : Nat) (b39 : Nat) (b40 : Nat) (b41 : Nat) (b42 : Nat) (b43 : Nat) (b44 : Int32) (b45 : Nat) (b46 : Nat) (b47 : Int32) (b48 : Nat) (b49 : Nat) (b50 : Nat) (b51 : Nat) (b52 : Nat) (b53 : Int32) (b54 : Nat) (b55 : Nat) (b56 : Nat) (b57 : Nat → Int32) (b58 : Nat → Int32) (b59 : Nat → Int32) (b60 : Nat → Int32) (b61 : Nat → Int32) (b62 : Nat → Int32) (b63 : Nat → Int32) (b64 : Nat → Int32) (b65 : Nat → Int32) (b66 : Nat → Int32) (hb1 : zI b1 0 3) (hb2 : zI b2 (-1) 19) (hb8 : zI b8 0 8) (hb10 : zI b10 0 240) (hb11 : zI b11 0 240) (hb13 : zI b13 0 1) (hb17 : zI b17 0 12) (hb30 : zI b30 0 1) (hb33 : zI b33 0 1) (hb44 : zI b44 0 1000) (hb47 : zI b47 0 1000) (hb53 : zI b53 0 400) (hb57 : zW5 b57) (hb58 : zR b58 0 241) (hb59 : zqa qP b59) (hb61 : zqa qC b61) (hb62 : zR b62 0 240) (hb63 : zR b63 0 241) (hb64 : zR b64 0 240) (htm : zTm ((b57 (0 : Int32).toNatClampNeg).toInt) (b2 : Int32).toInt (b58 (1 : Int32).toNatClampNeg).toInt 260 b57 b59) (hz0 : ∀ q : Nat, (q : Int) < (b58 (1 : Int32).toNatClampNeg).toInt → (b61 (241 + q)).toInt = 0) : zM l G y_Model_layStates prog_14_method_31_code 8 (Option.none : Option Jvm.ClassFile.FieldType) m_s2_Model_layStates [.ref b0, .int 1, .int b1, .int b2] [(b0, .inr (12, [.int b3, .ref b4, .ref b5, .ref b6, .ref b7, .int b8, .ref b9, .int b10, .int b11, .int b12, .int b13, .ref b14, .ref b15, .ref b16, .int b17, .ref b18, .ref b19, .ref b20, .ref b21, .ref b22, .ref b23, .ref b24, .ref b25, .ref b26, .ref b27, .ref b28, .ref b29, .int b30, .ref b31, .ref b32, .int b33, .int b34, .int b35, .int b36, .ref b37, .ref b38, .ref b39, .ref b40, .ref b41, .ref b42, .ref b43, .int b44, .ref b45, .ref b46, .int b47, .ref b48, .ref b49, .ref b50, .ref b51, .ref b52, .int b53, .ref b54, .ref b55, .ref b56])), (b4, .inl (G.2 0, 503, .inl b57)), (b18, .inl (G.2 0, 2, .inl b58)), (b20, .inl (G.2 0, 520, .inl b59)), (b21, .inl (G.2 0, 9640, .inl b60)), (b22, .inl (G.2 0, 482, .inl b61)), (b23, .inl (G.2 0, 482, .inl b62)), (b24, .inl (G.2 0, 2, .inl b63)), (b25, .inl (G.2 0, 482, .inl b64)), (b26, .inl (G.2 0, 482, .inl b65)), (b27, .inl (G.2 0, 482, .inl b66))] (fun v w => ∃ (e0 : Nat → Int32), ∃ (e1 : Nat → Int32), ∃ (e2 : Nat → Int32), ∃ (e3 : Nat → Int32), ∃ (e4 : Nat → Int32), ∃ (e5 : Nat → Int32), ∃ (e6 : Nat → Int32), v = none ∧ w = [(b0, .inr (12, [.int b3, .ref b4, .ref b5, .ref b6, .ref b7, .int b8, .ref b9, .int b10, .int b11, .int b12, .int b13, .ref b14, .ref b15, .ref b16, .int b17, .ref b18, .ref b19, .ref b20, .ref b21, .ref b22, .ref b23, .ref b24, .ref b25, .ref b26, .ref b27, .ref b28, .ref b29, .int b30, .ref b31, .ref b32, .int b33, .int b34, .int b35, .int b36, .ref b37, .ref b38, .ref b39, .ref b40, .ref b41, .ref b42, .ref b43, .int b44, .ref b45, .ref b46, .int b47, .ref b48, .ref b49, .ref b50, .ref b51, .ref b52, .int b53, .ref b54, .ref b55, .ref b56])), (b4, .inl (G.2 0, 503, .inl b57)), (b18, .inl (G.2 0, 2, .inl b58)), (b20, .inl (G.2 0, 520, .inl b59)), (b21, .inl (G.2 0, 9640, .inl e0)), (b22, .inl (G.2 0, 482, .inl e1)), (b23, .inl (G.2 0, 482, .inl e2)), (b24, .inl (G.2 0, 2, .inl e3)), (b25, .inl (G.2 0, 482, .inl e4)), (b26, .inl (G.2 0, 482, .inl e5)), (b27, .inl (G.2 0, 482, .inl e6))] ∧ (zqa qC e1) ∧ (zR e2 0 240) ∧ (zR e3 0 241) ∧ (zR e4 0 240)) := by
  refine z_start (by decide +kernel) (Nat.le_of_ble_eq_true rfl) ?_
  intro p e s m below meth c A Z hr hnm hA hP hD hS ls hl
  have Z : zC p s m _ meth c prog_14_method_31_code 8 "TraceMachinesModel" G := Z
  obtain ⟨hx, hb, hml, hown, hts, hK, hN, hlocks⟩ := id Z
  have hl : lv_has ls 8 [(0, .ref b0), (1, .int 1), (2, .int b1), (3, .int b2)] := hl
  refine lv_sipush (v := 241) hx hb d_Model_layStates_0 (by decide) ?_
  refine lv_iload_n hx hb d_Model_layStates_3 rfl (lv_at hl 1 rfl) ?_
  refine lv_imul hx hb d_Model_layStates_4 ?_
  refine z_topi (y := 241) (by decide +kernel) ?_
  refine lv_istore (lv' := [(4, .int 241), (0, .ref b0), (1, .int 1), (2, .int b1), (3, .int b2)]) hx hb d_Model_layStates_5 hl (by decide) rfl (fun ls hl => ?_)
  refine lv_iconst (v := 0) hx hb d_Model_layStates_7 (by decide) ?_
  refine lv_istore (lv' := [(5, .int 0), (4, .int 241), (0, .ref b0), (1, .int 1), (2, .int b1), (3, .int b2)]) hx hb d_Model_layStates_8 hl (by decide) rfl (fun ls hl => ?_)
  suffices key : ∀ (k_761 : Nat) (y_762 : Int32) (y_763 : Nat → Int32) (y_764 : Nat → Int32) (H : Heap) (locs : List Loc) (ls : Array Slot), (zI y_762 0 20) → (zqa qC y_764) → (∀ q : Nat, (q : Int) < (b58 (1 : Int32).toNatClampNeg).toInt → (y_764 (241 + q)).toInt = 0 ∨ (y_764 (241 + q)).toInt + (q : Int) ≤ 13 * (y_762 : Int32).toInt) → (20 : Int) - y_762.toInt < (k_761 : Int) → va_P G.1 classes [(b0, .inr (12, [.int b3, .ref b4, .ref b5, .ref b6, .ref b7, .int b8, .ref b9, .int b10, .int b11, .int b12, .int b13, .ref b14, .ref b15, .ref b16, .int b17, .ref b18, .ref b19, .ref b20, .ref b21, .ref b22, .ref b23, .ref b24, .ref b25, .ref b26, .ref b27, .ref b28, .ref b29, .int b30, .ref b31, .ref b32, .int b33, .int b34, .int b35, .int b36, .ref b37, .ref b38, .ref b39, .ref b40, .ref b41, .ref b42, .ref b43, .int b44, .ref b45, .ref b46, .int b47, .ref b48, .ref b49, .ref b50, .ref b51, .ref b52, .int b53, .ref b54, .ref b55, .ref b56])), (b4, .inl (G.2 0, 503, .inl b57)), (b18, .inl (G.2 0, 2, .inl b58)), (b20, .inl (G.2 0, 520, .inl b59)), (b21, .inl (G.2 0, 9640, .inl y_763)), (b22, .inl (G.2 0, 482, .inl y_764)), (b23, .inl (G.2 0, 482, .inl b62)), (b24, .inl (G.2 0, 2, .inl b63)), (b25, .inl (G.2 0, 482, .inl b64)), (b26, .inl (G.2 0, 482, .inl b65)), (b27, .inl (G.2 0, 482, .inl b66))] H → va_D A [(b0, .inr (12, [.int b3, .ref b4, .ref b5, .ref b6, .ref b7, .int b8, .ref b9, .int b10, .int b11, .int b12, .int b13, .ref b14, .ref b15, .ref b16, .int b17, .ref b18, .ref b19, .ref b20, .ref b21, .ref b22, .ref b23, .ref b24, .ref b25, .ref b26, .ref b27, .ref b28, .ref b29, .int b30, .ref b31, .ref b32, .int b33, .int b34, .int b35, .int b36, .ref b37, .ref b38, .ref b39, .ref b40, .ref b41, .ref b42, .ref b43, .int b44, .ref b45, .ref b46, .int b47, .ref b48, .ref b49, .ref b50, .ref b51, .ref b52, .int b53, .ref b54, .ref b55, .ref b56])), (b4, .inl (G.2 0, 503, .inl b57)), (b18, .inl (G.2 0, 2, .inl b58)), (b20, .inl (G.2 0, 520, .inl b59)), (b21, .inl (G.2 0, 9640, .inl y_763)), (b22, .inl (G.2 0, 482, .inl y_764)), (b23, .inl (G.2 0, 482, .inl b62)), (b24, .inl (G.2 0, 2, .inl b63)), (b25, .inl (G.2 0, 482, .inl b64)), (b26, .inl (G.2 0, 482, .inl b65)), (b27, .inl (G.2 0, 482, .inl b66))] → va_S A s.heap H locs → lv_has ls 8 [(5, .int y_762), (4, .int 241), (0, .ref b0), (1, .int 1), (2, .int b1), (3, .int b2)] → W p l e m_s2_Model_layStates s m ([.ref b0, .int 1, .int b1, .int b2] : List Value).toArray below meth c H locs 0 0 (MQ below (zQ G (fun v w => ∃ (e0 : Nat → Int32), ∃ (e1 : Nat → Int32), ∃ (e2 : Nat → Int32), ∃ (e3 : Nat → Int32), ∃ (e4 : Nat → Int32), ∃ (e5 : Nat → Int32), ∃ (e6 : Nat → Int32), v = none ∧ w = [(b0, .inr (12, [.int b3, .ref b4, .ref b5, .ref b6, .ref b7, .int b8, .ref b9, .int b10, .int b11, .int b12, .int b13, .ref b14, .ref b15, .ref b16, .int b17, .ref b18, .ref b19, .ref b20, .ref b21, .ref b22, .ref b23, .ref b24, .ref b25, .ref b26, .ref b27, .ref b28, .ref b29, .int b30, .ref b31, .ref b32, .int b33, .int b34, .int b35, .int b36, .ref b37, .ref b38, .ref b39, .ref b40, .ref b41, .ref b42, .ref b43, .int b44, .ref b45, .ref b46, .int b47, .ref b48, .ref b49, .ref b50, .ref b51, .ref b52, .int b53, .ref b54, .ref b55, .ref b56])), (b4, .inl (G.2 0, 503, .inl b57)), (b18, .inl (G.2 0, 2, .inl b58)), (b20, .inl (G.2 0, 520, .inl b59)), (b21, .inl (G.2 0, 9640, .inl e0)), (b22, .inl (G.2 0, 482, .inl e1)), (b23, .inl (G.2 0, 482, .inl e2)), (b24, .inl (G.2 0, 2, .inl e3)), (b25, .inl (G.2 0, 482, .inl e4)), (b26, .inl (G.2 0, 482, .inl e5)), (b27, .inl (G.2 0, 482, .inl e6))] ∧ (zqa qC e1) ∧ (zR e2 0 240) ∧ (zR e3 0 241) ∧ (zR e4 0 240)) A) ([.ref b0, .int 1, .int b1, .int b2] : List Value).toArray s m_s2_Model_layStates.cells m_s2_Model_layStates.slots A) (F0 m 10 ls []) by
    exact key 21 (0) (b60) (b61) _ _ _ (zI.wk (l' := 0) (h' := 20) zc_0 (by decide)) hb61 (fun q hq => Or.inl (hz0 q hq)) (zm_upi (zI.wk (l' := 0) (h' := 20) zc_0 (by decide)) (by decide)) hP hD hS (lv_sub hl [0, 1, 2, 3, 4, 5] rfl)
  intro k_761
  induction k_761 with
  | zero =>
    intro y_762 y_763 y_764 H locs ls hy_762 hy_764 hli_765 hmk_761 hP hD hS hl
    exact (zm_up0 hy_762 hmk_761).elim
  | succ k_761 ihk_761 =>
    intro y_762 y_763 y_764 H locs ls hy_762 hy_764 hli_765 hmk_761 hP hD hS hl
    refine lv_iload hx hb d_Model_layStates_10 (lv_at hl 0 rfl) ?_
    refine lv_aload_n hx hb d_Model_layStates_12 rfl (lv_at hl 2 rfl) ?_
    refine z_callV (index := 134) (As := []) (rest := [.int y_762]) (wr := [(b18, .inl (G.2 0, 2, .inl b58)), (b20, .inl (G.2 0, 520, .inl b59)), (b21, .inl (G.2 0, 9640, .inl y_763)), (b22, .inl (G.2 0, 482, .inl y_764)), (b23, .inl (G.2 0, 482, .inl b62)), (b24, .inl (G.2 0, 2, .inl b63)), (b25, .inl (G.2 0, 482, .inl b64)), (b26, .inl (G.2 0, 482, .inl b65)), (b27, .inl (G.2 0, 482, .inl b66))]) Z (s1_Model_many l G (b0) (b3) (b4) (b5) (b6) (b7) (b8) (b9) (b10) (b11) (b12) (b13) (b14) (b15) (b16) (b17) (b18) (b19) (b20) (b21) (b22) (b23) (b24) (b25) (b26) (b27) (b28) (b29) (b30) (b31) (b32) (b33) (b34) (b35) (b36) (b37) (b38) (b39) (b40) (b41) (b42) (b43) (b44) (b45) (b46) (b47) (b48) (b49) (b50) (b51) (b52) (b53) (b54) (b55) (b56) (b57) hb8 hb10 hb11 hb13 hb17 hb30 hb33 hb44 hb47 hb53 hb57) hl.1 q1320 q1322 qs51 q14 q1323 ⟨by decide, by decide, by show _ = some 0; decide +kernel⟩ ⟨Nat.le_of_ble_eq_true rfl, Nat.le_of_ble_eq_true rfl⟩ ⟨Nat.le_of_ble_eq_true rfl, Nat.le_of_ble_eq_true rfl⟩ rfl (Nat.le_of_ble_eq_true rfl) d_Model_layStates_13 hP hD hS hA 0 12 rfl rfl rfl [0, 1] [2, 3, 4, 5, 6, 7, 8, 9, 10] rfl rfl rfl rfl (by decide) (fun v w1 H locs hw_766 hP hD hS => ?_)
    obtain ⟨x_767, rfl, rfl, hx_767, hfx_768⟩ := hw_766
    have hP : va_P G.1 classes [(b18, .inl (G.2 0, 2, .inl b58)), (b20, .inl (G.2 0, 520, .inl b59)), (b21, .inl (G.2 0, 9640, .inl y_763)), (b22, .inl (G.2 0, 482, .inl y_764)), (b23, .inl (G.2 0, 482, .inl b62)), (b24, .inl (G.2 0, 2, .inl b63)), (b25, .inl (G.2 0, 482, .inl b64)), (b26, .inl (G.2 0, 482, .inl b65)), (b27, .inl (G.2 0, 482, .inl b66)), (b0, .inr (12, [.int b3, .ref b4, .ref b5, .ref b6, .ref b7, .int b8, .ref b9, .int b10, .int b11, .int b12, .int b13, .ref b14, .ref b15, .ref b16, .int b17, .ref b18, .ref b19, .ref b20, .ref b21, .ref b22, .ref b23, .ref b24, .ref b25, .ref b26, .ref b27, .ref b28, .ref b29, .int b30, .ref b31, .ref b32, .int b33, .int b34, .int b35, .int b36, .ref b37, .ref b38, .ref b39, .ref b40, .ref b41, .ref b42, .ref b43, .int b44, .ref b45, .ref b46, .int b47, .ref b48, .ref b49, .ref b50, .ref b51, .ref b52, .int b53, .ref b54, .ref b55, .ref b56])), (b4, .inl (G.2 0, 503, .inl b57))] H := hP
    have hD := z_tie hP hD rfl
    refine W.widen (k := 0) (n := 0) (Nat.le_of_ble_eq_true rfl) (Nat.le_of_ble_eq_true rfl) ?_
    refine lv_icmp_ge (tgt := 76) hx hb d_Model_layStates_16 (by decide) (fun hc_769 => ?_) (fun hc_769 => ?_)
    · have _nhc_769 := hc_769
      have ni_770 := (fa_le _ _).mp hc_769
      refine lv_aload_n hx hb d_Model_layStates_76 rfl (lv_at hl 2 rfl) ?_
      refine va_get (D := G.1) (ci := 12) (v := .ref b24) (C := R_Model) (T := F_Model) (N := 54) hx hb hts i_Model hown hK hP 9 rfl rfl 21 (by decide) (hts _ q1130) (fun _ h9 => h9) rfl d_Model_layStates_77 ?_
      refine lv_iload_n hx hb d_Model_layStates_80 rfl (lv_at hl 3 rfl) ?_
      refine lv_iconst (v := 0) hx hb d_Model_layStates_81 (by decide) ?_
      refine va_iast hx hb hK hP hD hS 5 0 rfl rfl (i := 1) (z_in rfl) d_Model_layStates_82 (fun H locs hP hD hS => ?_)
      obtain ⟨f_771, hf_771, gf_771, uf_771, hP, hD⟩ := z_newfu 5 hP hD rfl hb63 (zI.wk (l' := 0) (h' := 241) zc_0 (by decide))
      have hP : va_P G.1 classes [(b18, .inl (G.2 0, 2, .inl b58)), (b20, .inl (G.2 0, 520, .inl b59)), (b21, .inl (G.2 0, 9640, .inl y_763)), (b22, .inl (G.2 0, 482, .inl y_764)), (b23, .inl (G.2 0, 482, .inl b62)), (b24, .inl (G.2 0, 2, .inl f_771)), (b25, .inl (G.2 0, 482, .inl b64)), (b26, .inl (G.2 0, 482, .inl b65)), (b27, .inl (G.2 0, 482, .inl b66)), (b0, .inr (12, [.int b3, .ref b4, .ref b5, .ref b6, .ref b7, .int b8, .ref b9, .int b10, .int b11, .int b12, .int b13, .ref b14, .ref b15, .ref b16, .int b17, .ref b18, .ref b19, .ref b20, .ref b21, .ref b22, .ref b23, .ref b24, .ref b25, .ref b26, .ref b27, .ref b28, .ref b29, .int b30, .ref b31, .ref b32, .int b33, .int b34, .int b35, .int b36, .ref b37, .ref b38, .ref b39, .ref b40, .ref b41, .ref b42, .ref b43, .int b44, .ref b45, .ref b46, .int b47, .ref b48, .ref b49, .ref b50, .ref b51, .ref b52, .int b53, .ref b54, .ref b55, .ref b56])), (b4, .inl (G.2 0, 503, .inl b57))] H := hP
      have hD := z_tie hP hD rfl
      refine lv_aload_n hx hb d_Model_layStates_83 rfl (lv_at hl 2 rfl) ?_
      refine z_callV (index := 134) (As := []) (rest := []) (wr := [(b18, .inl (G.2 0, 2, .inl b58)), (b20, .inl (G.2 0, 520, .inl b59)), (b21, .inl (G.2 0, 9640, .inl y_763)), (b22, .inl (G.2 0, 482, .inl y_764)), (b23, .inl (G.2 0, 482, .inl b62)), (b24, .inl (G.2 0, 2, .inl f_771)), (b25, .inl (G.2 0, 482, .inl b64)), (b26, .inl (G.2 0, 482, .inl b65)), (b27, .inl (G.2 0, 482, .inl b66))]) Z (s1_Model_many l G (b0) (b3) (b4) (b5) (b6) (b7) (b8) (b9) (b10) (b11) (b12) (b13) (b14) (b15) (b16) (b17) (b18) (b19) (b20) (b21) (b22) (b23) (b24) (b25) (b26) (b27) (b28) (b29) (b30) (b31) (b32) (b33) (b34) (b35) (b36) (b37) (b38) (b39) (b40) (b41) (b42) (b43) (b44) (b45) (b46) (b47) (b48) (b49) (b50) (b51) (b52) (b53) (b54) (b55) (b56) (b57) hb8 hb10 hb11 hb13 hb17 hb30 hb33 hb44 hb47 hb53 hb57) hl.1 q1320 q1322 qs51 q14 q1323 ⟨by decide, by decide, by show _ = some 0; decide +kernel⟩ ⟨Nat.le_of_ble_eq_true rfl, Nat.le_of_ble_eq_true rfl⟩ ⟨Nat.le_of_ble_eq_true rfl, Nat.le_of_ble_eq_true rfl⟩ rfl (Nat.le_of_ble_eq_true rfl) d_Model_layStates_84 hP hD hS hA 9 12 rfl rfl rfl [9, 10] [0, 1, 2, 3, 4, 5, 6, 7, 8] rfl rfl rfl rfl (by decide) (fun v w1 H locs hw_772 hP hD hS => ?_)
      obtain ⟨x_773, rfl, rfl, hx_773, hfx_774⟩ := hw_772
      have hP : va_P G.1 classes [(b18, .inl (G.2 0, 2, .inl b58)), (b20, .inl (G.2 0, 520, .inl b59)), (b21, .inl (G.2 0, 9640, .inl y_763)), (b22, .inl (G.2 0, 482, .inl y_764)), (b23, .inl (G.2 0, 482, .inl b62)), (b24, .inl (G.2 0, 2, .inl f_771)), (b25, .inl (G.2 0, 482, .inl b64)), (b26, .inl (G.2 0, 482, .inl b65)), (b27, .inl (G.2 0, 482, .inl b66)), (b0, .inr (12, [.int b3, .ref b4, .ref b5, .ref b6, .ref b7, .int b8, .ref b9, .int b10, .int b11, .int b12, .int b13, .ref b14, .ref b15, .ref b16, .int b17, .ref b18, .ref b19, .ref b20, .ref b21, .ref b22, .ref b23, .ref b24, .ref b25, .ref b26, .ref b27, .ref b28, .ref b29, .int b30, .ref b31, .ref b32, .int b33, .int b34, .int b35, .int b36, .ref b37, .ref b38, .ref b39, .ref b40, .ref b41, .ref b42, .ref b43, .int b44, .ref b45, .ref b46, .int b47, .ref b48, .ref b49, .ref b50, .ref b51, .ref b52, .int b53, .ref b54, .ref b55, .ref b56])), (b4, .inl (G.2 0, 503, .inl b57))] H := hP
      have hD := z_tie hP hD rfl
      refine W.widen (k := 0) (n := 0) (Nat.le_of_ble_eq_true rfl) (Nat.le_of_ble_eq_true rfl) ?_
      refine lv_iload_n hx hb d_Model_layStates_87 rfl (lv_at hl 5 rfl) ?_
      refine lv_iconst (v := (-1)) hx hb d_Model_layStates_88 (by decide) ?_
      refine lv_icmp_ne (tgt := 96) hx hb d_Model_layStates_89 (by decide) (fun hc_775 => ?_) (fun hc_775 => ?_)
      · have _nhc_775 := hc_775
        have ni_776 : ¬ (b2 : Int32).toInt = ((-1) : Int32).toInt := fun z => hc_775 ((fa_eq _ _).mpr z)
        simp only [li_m1] at ni_776
        have hv_777 : zI b2 0 19 := zI.ne_lo hb2 zc_m1 hc_775 (by decide)
        refine lv_iconst (v := 1) hx hb d_Model_layStates_96 (by decide) ?_
        refine lv_icmp_le (tgt := 104) hx hb d_Model_layStates_97 (by decide) (fun hc_778 => ?_) (fun hc_778 => ?_)
        · have _nhc_778 := hc_778
          have ni_779 := (fa_le _ _).mp hc_778
          rw [li_1] at ni_779
          have hv_780 : zI x_773 0 1 := zI.le_l hx_773 zc_1 hc_778 (by decide)
          refine lv_iconst (v := 0) hx hb d_Model_layStates_104 (by decide) ?_
          refine lv_istore (lv' := [(5, .int 0), (4, .int 241), (0, .ref b0), (1, .int 1), (2, .int b1), (3, .int b2)]) hx hb d_Model_layStates_105 hl (by decide) rfl (fun ls hl => ?_)
          refine lv_iconst (v := 0) hx hb d_Model_layStates_107 (by decide) ?_
          refine lv_istore (lv' := [(6, .int 0), (5, .int 0), (4, .int 241), (0, .ref b0), (1, .int 1), (2, .int b1), (3, .int b2)]) hx hb d_Model_layStates_108 hl (by decide) rfl (fun ls hl => ?_)
          refine lv_iload hx hb d_Model_layStates_110 (lv_at hl 0 rfl) ?_
          refine lv_aload_n hx hb d_Model_layStates_112 rfl (lv_at hl 3 rfl) ?_
          refine va_get (D := G.1) (ci := 12) (v := .ref b18) (C := R_Model) (T := F_Model) (N := 54) hx hb hts i_Model hown hK hP 9 rfl rfl 15 (by decide) (hts _ q1124) (fun _ h9 => h9) rfl d_Model_layStates_113 ?_
          refine lv_iload_n hx hb d_Model_layStates_116 rfl (lv_at hl 4 rfl) ?_
          refine va_iald hx hb hK hP 0 0 rfl rfl (i := 1) (z_in rfl) d_Model_layStates_117 ?_
          refine lv_topi (fun v_793 ev_793 => ?_)
          have hv_793 : zI v_793 0 241 := (hb58 _).eq ev_793
          refine lv_icmp_ge (tgt := 258) hx hb d_Model_layStates_118 (by decide) (fun hc_794 => ?_) (fun hc_794 => ?_)
          · have _nhc_794 := hc_794
            have ni_795 := (fa_le _ _).mp hc_794
            rw [li_0] at ni_795
            have hv_796 : zI v_793 0 0 := zI.le_l hv_793 zc_0 hc_794 (by decide)
            exact z_vret hx hb hr hlocks (hP.sub [9, 10, 0, 1, 2, 3, 4, 5, 6, 7, 8] rfl) (hD.sub [9, 10, 0, 1, 2, 3, 4, 5, 6, 7, 8] (by decide) rfl) hS (Nat.le_of_ble_eq_true rfl) (Nat.le_of_ble_eq_true rfl) d_Model_layStates_258 ⟨y_763, y_764, b62, f_771, b64, b65, b66, rfl, rfl, hy_764, hb62, hf_771, hb64⟩
          · have _nhc_794 := hc_794
            have ni_797 := (fa_lt _ _).mp (zi_nle hc_794)
            rw [li_0] at ni_797
            have hv_798 : zI v_793 1 241 := zI.lt_r zc_0 hv_793 (zi_nle hc_794) (by decide)
            refine lv_iload hx hb d_Model_layStates_121 (lv_at hl 1 rfl) ?_
            refine lv_if_eq (tgt := 258) hx hb d_Model_layStates_123 (by decide) (fun _ => ?_) (fun hc => absurd hc (by decide +kernel))
            exact z_vret hx hb hr hlocks (hP.sub [9, 10, 0, 1, 2, 3, 4, 5, 6, 7, 8] rfl) (hD.sub [9, 10, 0, 1, 2, 3, 4, 5, 6, 7, 8] (by decide) rfl) hS (Nat.le_of_ble_eq_true rfl) (Nat.le_of_ble_eq_true rfl) d_Model_layStates_258 ⟨y_763, y_764, b62, f_771, b64, b65, b66, rfl, rfl, hy_764, hb62, hf_771, hb64⟩
        · have _nhc_778 := hc_778
          have ni_799 := (fa_lt _ _).mp (zi_nle hc_778)
          rw [li_1] at ni_799
          have hv_800 : zI x_773 2 20 := zI.lt_r zc_1 hx_773 (zi_nle hc_778) (by decide)
          refine lv_iconst (v := 1) hx hb d_Model_layStates_100 (by decide) ?_
          refine lv_goto (tgt := 105) hx hb d_Model_layStates_101 (by decide) ?_
          refine lv_istore (lv' := [(5, .int 1), (4, .int 241), (0, .ref b0), (1, .int 1), (2, .int b1), (3, .int b2)]) hx hb d_Model_layStates_105 hl (by decide) rfl (fun ls hl => ?_)
          refine lv_iconst (v := 0) hx hb d_Model_layStates_107 (by decide) ?_
          refine lv_istore (lv' := [(6, .int 0), (5, .int 1), (4, .int 241), (0, .ref b0), (1, .int 1), (2, .int b1), (3, .int b2)]) hx hb d_Model_layStates_108 hl (by decide) rfl (fun ls hl => ?_)
          suffices key : ∀ (k_957 : Nat) (y_958 : Int32) (y_959 : Nat → Int32) (y_960 : Nat → Int32) (y_961 : Nat → Int32) (y_962 : Nat → Int32) (y_963 : Nat → Int32) (H : Heap) (locs : List Loc) (ls : Array Slot), (zI y_958 0 241) → (zR y_959 0 240) → (zR y_960 0 241) → (zR y_961 0 240) → ((y_960 (1 : Int32).toNatClampNeg).toInt ≤ (y_958 : Int32).toInt) → (True) → (True) → (True) → (241 : Int) - y_958.toInt < (k_957 : Int) → va_P G.1 classes [(b18, .inl (G.2 0, 2, .inl b58)), (b20, .inl (G.2 0, 520, .inl b59)), (b21, .inl (G.2 0, 9640, .inl y_763)), (b22, .inl (G.2 0, 482, .inl y_764)), (b23, .inl (G.2 0, 482, .inl y_959)), (b24, .inl (G.2 0, 2, .inl y_960)), (b25, .inl (G.2 0, 482, .inl y_961)), (b26, .inl (G.2 0, 482, .inl y_962)), (b27, .inl (G.2 0, 482, .inl y_963)), (b0, .inr (12, [.int b3, .ref b4, .ref b5, .ref b6, .ref b7, .int b8, .ref b9, .int b10, .int b11, .int b12, .int b13, .ref b14, .ref b15, .ref b16, .int b17, .ref b18, .ref b19, .ref b20, .ref b21, .ref b22, .ref b23, .ref b24, .ref b25, .ref b26, .ref b27, .ref b28, .ref b29, .int b30, .ref b31, .ref b32, .int b33, .int b34, .int b35, .int b36, .ref b37, .ref b38, .ref b39, .ref b40, .ref b41, .ref b42, .ref b43, .int b44, .ref b45, .ref b46, .int b47, .ref b48, .ref b49, .ref b50, .ref b51, .ref b52, .int b53, .ref b54, .ref b55, .ref b56])), (b4, .inl (G.2 0, 503, .inl b57))] H → va_D A [(b18, .inl (G.2 0, 2, .inl b58)), (b20, .inl (G.2 0, 520, .inl b59)), (b21, .inl (G.2 0, 9640, .inl y_763)), (b22, .inl (G.2 0, 482, .inl y_764)), (b23, .inl (G.2 0, 482, .inl y_959)), (b24, .inl (G.2 0, 2, .inl y_960)), (b25, .inl (G.2 0, 482, .inl y_961)), (b26, .inl (G.2 0, 482, .inl y_962)), (b27, .inl (G.2 0, 482, .inl y_963)), (b0, .inr (12, [.int b3, .ref b4, .ref b5, .ref b6, .ref b7, .int b8, .ref b9, .int b10, .int b11, .int b12, .int b13, .ref b14, .ref b15, .ref b16, .int b17, .ref b18, .ref b19, .ref b20, .ref b21, .ref b22, .ref b23, .ref b24, .ref b25, .ref b26, .ref b27, .ref b28, .ref b29, .int b30, .ref b31, .ref b32, .int b33, .int b34, .int b35, .int b36, .ref b37, .ref b38, .ref b39, .ref b40, .ref b41, .ref b42, .ref b43, .int b44, .ref b45, .ref b46, .int b47, .ref b48, .ref b49, .ref b50, .ref b51, .ref b52, .int b53, .ref b54, .ref b55, .ref b56])), (b4, .inl (G.2 0, 503, .inl b57))] → va_S A s.heap H locs → lv_has ls 8 [(6, .int y_958), (5, .int 1), (4, .int 241), (0, .ref b0), (1, .int 1), (2, .int b1), (3, .int b2)] → W p l e m_s2_Model_layStates s m ([.ref b0, .int 1, .int b1, .int b2] : List Value).toArray below meth c H locs 0 0 (MQ below (zQ G (fun v w => ∃ (e0 : Nat → Int32), ∃ (e1 : Nat → Int32), ∃ (e2 : Nat → Int32), ∃ (e3 : Nat → Int32), ∃ (e4 : Nat → Int32), ∃ (e5 : Nat → Int32), ∃ (e6 : Nat → Int32), v = none ∧ w = [(b0, .inr (12, [.int b3, .ref b4, .ref b5, .ref b6, .ref b7, .int b8, .ref b9, .int b10, .int b11, .int b12, .int b13, .ref b14, .ref b15, .ref b16, .int b17, .ref b18, .ref b19, .ref b20, .ref b21, .ref b22, .ref b23, .ref b24, .ref b25, .ref b26, .ref b27, .ref b28, .ref b29, .int b30, .ref b31, .ref b32, .int b33, .int b34, .int b35, .int b36, .ref b37, .ref b38, .ref b39, .ref b40, .ref b41, .ref b42, .ref b43, .int b44, .ref b45, .ref b46, .int b47, .ref b48, .ref b49, .ref b50, .ref b51, .ref b52, .int b53, .ref b54, .ref b55, .ref b56])), (b4, .inl (G.2 0, 503, .inl b57)), (b18, .inl (G.2 0, 2, .inl b58)), (b20, .inl (G.2 0, 520, .inl b59)), (b21, .inl (G.2 0, 9640, .inl e0)), (b22, .inl (G.2 0, 482, .inl e1)), (b23, .inl (G.2 0, 482, .inl e2)), (b24, .inl (G.2 0, 2, .inl e3)), (b25, .inl (G.2 0, 482, .inl e4)), (b26, .inl (G.2 0, 482, .inl e5)), (b27, .inl (G.2 0, 482, .inl e6))] ∧ (zqa qC e1) ∧ (zR e2 0 240) ∧ (zR e3 0 241) ∧ (zR e4 0 240)) A) ([.ref b0, .int 1, .int b1, .int b2] : List Value).toArray s m_s2_Model_layStates.cells m_s2_Model_layStates.slots A) (F0 m 110 ls []) by
            exact key 242 (0) (b62) (f_771) (b64) (b65) (b66) _ _ _ (zI.wk (l' := 0) (h' := 241) zc_0 (by decide)) hb62 hf_771 hb64 (by rw [gf_771]; have _l0 := li_0; omega) trivial trivial trivial (zm_upi (zI.wk (l' := 0) (h' := 241) zc_0 (by decide)) (by decide)) hP hD hS (lv_sub hl [0, 1, 2, 3, 4, 5, 6] rfl)
          intro k_957
          induction k_957 with
          | zero =>
            intro y_958 y_959 y_960 y_961 y_962 y_963 H locs ls hy_958 hy_959 hy_960 hy_961 hli_964 hli_965 hli_966 hli_967 hmk_957 hP hD hS hl
            exact (zm_up0 hy_958 hmk_957).elim
          | succ k_957 ihk_957 =>
            intro y_958 y_959 y_960 y_961 y_962 y_963 H locs ls hy_958 hy_959 hy_960 hy_961 hli_964 hli_965 hli_966 hli_967 hmk_957 hP hD hS hl
            refine lv_iload hx hb d_Model_layStates_110 (lv_at hl 0 rfl) ?_
            refine lv_aload_n hx hb d_Model_layStates_112 rfl (lv_at hl 3 rfl) ?_
            refine va_get (D := G.1) (ci := 12) (v := .ref b18) (C := R_Model) (T := F_Model) (N := 54) hx hb hts i_Model hown hK hP 9 rfl rfl 15 (by decide) (hts _ q1124) (fun _ h9 => h9) rfl d_Model_layStates_113 ?_
            refine lv_iload_n hx hb d_Model_layStates_116 rfl (lv_at hl 4 rfl) ?_
            refine va_iald hx hb hK hP 0 0 rfl rfl (i := 1) (z_in rfl) d_Model_layStates_117 ?_
            refine lv_topi (fun v_968 ev_968 => ?_)
            have hv_968 : zI v_968 0 241 := (hb58 _).eq ev_968
            refine lv_icmp_ge (tgt := 258) hx hb d_Model_layStates_118 (by decide) (fun hc_969 => ?_) (fun hc_969 => ?_)
            · have _nhc_969 := hc_969
              have ni_970 := (fa_le _ _).mp hc_969
              exact z_vret hx hb hr hlocks (hP.sub [9, 10, 0, 1, 2, 3, 4, 5, 6, 7, 8] rfl) (hD.sub [9, 10, 0, 1, 2, 3, 4, 5, 6, 7, 8] (by decide) rfl) hS (Nat.le_of_ble_eq_true rfl) (Nat.le_of_ble_eq_true rfl) d_Model_layStates_258 ⟨y_763, y_764, y_959, y_960, y_961, y_962, y_963, rfl, rfl, hy_764, hy_959, hy_960, hy_961⟩
            · have _nhc_969 := hc_969
              have ni_971 := (fa_lt _ _).mp (zi_nle hc_969)
              have hv_972 : zI y_958 0 240 := zI.lt_l hy_958 hv_968 (zi_nle hc_969) (by decide)
              have hv_973 : zI v_968 1 241 := zI.lt_r hy_958 hv_968 (zi_nle hc_969) (by decide)
              refine lv_iload hx hb d_Model_layStates_121 (lv_at hl 1 rfl) ?_
              refine lv_if_eq (tgt := 258) hx hb d_Model_layStates_123 (by decide) (fun hc => absurd hc (by decide +kernel)) (fun _ => ?_)
              refine lv_iconst (v := 0) hx hb d_Model_layStates_126 (by decide) ?_
              refine lv_istore (lv' := [(7, .int 0), (6, .int y_958), (5, .int 1), (4, .int 241), (0, .ref b0), (1, .int 1), (2, .int b1), (3, .int b2)]) hx hb d_Model_layStates_127 hl (by decide) rfl (fun ls hl => ?_)
              suffices key : ∀ (k_1046 : Nat) (y_1047 : Int32) (H : Heap) (locs : List Loc) (ls : Array Slot), (zI y_1047 0 240) → ((y_1047 : Int32).toInt ≤ (y_960 (1 : Int32).toNatClampNeg).toInt) → (240 : Int) - y_1047.toInt < (k_1046 : Int) → va_P G.1 classes [(b18, .inl (G.2 0, 2, .inl b58)), (b20, .inl (G.2 0, 520, .inl b59)), (b21, .inl (G.2 0, 9640, .inl y_763)), (b22, .inl (G.2 0, 482, .inl y_764)), (b23, .inl (G.2 0, 482, .inl y_959)), (b24, .inl (G.2 0, 2, .inl y_960)), (b25, .inl (G.2 0, 482, .inl y_961)), (b26, .inl (G.2 0, 482, .inl y_962)), (b27, .inl (G.2 0, 482, .inl y_963)), (b0, .inr (12, [.int b3, .ref b4, .ref b5, .ref b6, .ref b7, .int b8, .ref b9, .int b10, .int b11, .int b12, .int b13, .ref b14, .ref b15, .ref b16, .int b17, .ref b18, .ref b19, .ref b20, .ref b21, .ref b22, .ref b23, .ref b24, .ref b25, .ref b26, .ref b27, .ref b28, .ref b29, .int b30, .ref b31, .ref b32, .int b33, .int b34, .int b35, .int b36, .ref b37, .ref b38, .ref b39, .ref b40, .ref b41, .ref b42, .ref b43, .int b44, .ref b45, .ref b46, .int b47, .ref b48, .ref b49, .ref b50, .ref b51, .ref b52, .int b53, .ref b54, .ref b55, .ref b56])), (b4, .inl (G.2 0, 503, .inl b57))] H → va_D A [(b18, .inl (G.2 0, 2, .inl b58)), (b20, .inl (G.2 0, 520, .inl b59)), (b21, .inl (G.2 0, 9640, .inl y_763)), (b22, .inl (G.2 0, 482, .inl y_764)), (b23, .inl (G.2 0, 482, .inl y_959)), (b24, .inl (G.2 0, 2, .inl y_960)), (b25, .inl (G.2 0, 482, .inl y_961)), (b26, .inl (G.2 0, 482, .inl y_962)), (b27, .inl (G.2 0, 482, .inl y_963)), (b0, .inr (12, [.int b3, .ref b4, .ref b5, .ref b6, .ref b7, .int b8, .ref b9, .int b10, .int b11, .int b12, .int b13, .ref b14, .ref b15, .ref b16, .int b17, .ref b18, .ref b19, .ref b20, .ref b21, .ref b22, .ref b23, .ref b24, .ref b25, .ref b26, .ref b27, .ref b28, .ref b29, .int b30, .ref b31, .ref b32, .int b33, .int b34, .int b35, .int b36, .ref b37, .ref b38, .ref b39, .ref b40, .ref b41, .ref b42, .ref b43, .int b44, .ref b45, .ref b46, .int b47, .ref b48, .ref b49, .ref b50, .ref b51, .ref b52, .int b53, .ref b54, .ref b55, .ref b56])), (b4, .inl (G.2 0, 503, .inl b57))] → va_S A s.heap H locs → lv_has ls 8 [(7, .int y_1047), (6, .int y_958), (5, .int 1), (4, .int 241), (0, .ref b0), (1, .int 1), (2, .int b1), (3, .int b2)] → W p l e m_s2_Model_layStates s m ([.ref b0, .int 1, .int b1, .int b2] : List Value).toArray below meth c H locs 0 0 (MQ below (zQ G (fun v w => ∃ (e0 : Nat → Int32), ∃ (e1 : Nat → Int32), ∃ (e2 : Nat → Int32), ∃ (e3 : Nat → Int32), ∃ (e4 : Nat → Int32), ∃ (e5 : Nat → Int32), ∃ (e6 : Nat → Int32), v = none ∧ w = [(b0, .inr (12, [.int b3, .ref b4, .ref b5, .ref b6, .ref b7, .int b8, .ref b9, .int b10, .int b11, .int b12, .int b13, .ref b14, .ref b15, .ref b16, .int b17, .ref b18, .ref b19, .ref b20, .ref b21, .ref b22, .ref b23, .ref b24, .ref b25, .ref b26, .ref b27, .ref b28, .ref b29, .int b30, .ref b31, .ref b32, .int b33, .int b34, .int b35, .int b36, .ref b37, .ref b38, .ref b39, .ref b40, .ref b41, .ref b42, .ref b43, .int b44, .ref b45, .ref b46, .int b47, .ref b48, .ref b49, .ref b50, .ref b51, .ref b52, .int b53, .ref b54, .ref b55, .ref b56])), (b4, .inl (G.2 0, 503, .inl b57)), (b18, .inl (G.2 0, 2, .inl b58)), (b20, .inl (G.2 0, 520, .inl b59)), (b21, .inl (G.2 0, 9640, .inl e0)), (b22, .inl (G.2 0, 482, .inl e1)), (b23, .inl (G.2 0, 482, .inl e2)), (b24, .inl (G.2 0, 2, .inl e3)), (b25, .inl (G.2 0, 482, .inl e4)), (b26, .inl (G.2 0, 482, .inl e5)), (b27, .inl (G.2 0, 482, .inl e6))] ∧ (zqa qC e1) ∧ (zR e2 0 240) ∧ (zR e3 0 241) ∧ (zR e4 0 240)) A) ([.ref b0, .int 1, .int b1, .int b2] : List Value).toArray s m_s2_Model_layStates.cells m_s2_Model_layStates.slots A) (F0 m 129 ls []) by
                exact key 241 (0) _ _ _ (zI.wk (l' := 0) (h' := 240) zc_0 (by decide)) (by have _l0 := li_0; have h9 := hy_960 (1 : Int32).toNatClampNeg; omega) (zm_upi (zI.wk (l' := 0) (h' := 240) zc_0 (by decide)) (by decide)) hP hD hS (lv_sub hl [0, 1, 2, 3, 4, 5, 6, 7] rfl)
              intro k_1046
              induction k_1046 with
              | zero =>
                intro y_1047 H locs ls hy_1047 hli_1048 hmk_1046 hP hD hS hl
                exact (zm_up0 hy_1047 hmk_1046).elim
              | succ k_1046 ihk_1046 =>
                intro y_1047 H locs ls hy_1047 hli_1048 hmk_1046 hP hD hS hl
                refine lv_iload hx hb d_Model_layStates_129 (lv_at hl 0 rfl) ?_
                refine lv_aload_n hx hb d_Model_layStates_131 rfl (lv_at hl 4 rfl) ?_
                refine va_get (D := G.1) (ci := 12) (v := .ref b24) (C := R_Model) (T := F_Model) (N := 54) hx hb hts i_Model hown hK hP 9 rfl rfl 21 (by decide) (hts _ q1130) (fun _ h9 => h9) rfl d_Model_layStates_132 ?_
                refine lv_iload_n hx hb d_Model_layStates_135 rfl (lv_at hl 5 rfl) ?_
                refine va_iald hx hb hK hP 5 0 rfl rfl (i := 1) (z_in rfl) d_Model_layStates_136 ?_
                refine lv_topi (fun v_1049 ev_1049 => ?_)
                have hv_1049 : zI v_1049 0 241 := (hy_960 _).eq ev_1049
                have hv_1050 : zI v_1049 0 240 := ⟨hv_1049.1, by rw [ev_1049]; omega⟩
                have hsmv_1049 : v_1049.toInt ≤ y_958.toInt := by rw [ev_1049]; omega
                refine lv_icmp_ge (tgt := 171) hx hb d_Model_layStates_137 (by decide) (fun hc_1051 => ?_) (fun hc_1051 => ?_)
                · have _nhc_1051 := hc_1051
                  have ni_1052 := (fa_le _ _).mp hc_1051
                  refine lv_iload hx hb d_Model_layStates_171 (lv_at hl 0 rfl) ?_
                  refine lv_aload_n hx hb d_Model_layStates_173 rfl (lv_at hl 4 rfl) ?_
                  refine va_get (D := G.1) (ci := 12) (v := .ref b24) (C := R_Model) (T := F_Model) (N := 54) hx hb hts i_Model hown hK hP 9 rfl rfl 21 (by decide) (hts _ q1130) (fun _ h9 => h9) rfl d_Model_layStates_174 ?_
                  refine lv_iload_n hx hb d_Model_layStates_177 rfl (lv_at hl 5 rfl) ?_
                  refine va_iald hx hb hK hP 5 0 rfl rfl (i := 1) (z_in rfl) d_Model_layStates_178 ?_
                  refine lv_topi (fun v_1053 ev_1053 => ?_)
                  obtain rfl : v_1049 = v_1053 := ev_1049.trans ev_1053.symm
                  refine lv_icmp_ne (tgt := 226) hx hb d_Model_layStates_179 (by decide) (fun hc_1054 => ?_) (fun hc_1054 => ?_)
                  · have _nhc_1054 := hc_1054
                    have ni_1055 : ¬ (y_1047 : Int32).toInt = (v_1049 : Int32).toInt := fun z => hc_1054 ((fa_eq _ _).mpr z)
                    refine lv_aload_n hx hb d_Model_layStates_226 rfl (lv_at hl 4 rfl) ?_
                    refine va_get (D := G.1) (ci := 12) (v := .ref b26) (C := R_Model) (T := F_Model) (N := 54) hx hb hts i_Model hown hK hP 9 rfl rfl 23 (by decide) (hts _ q1132) (fun _ h9 => h9) rfl d_Model_layStates_227 ?_
                    refine lv_iload hx hb d_Model_layStates_230 (lv_at hl 3 rfl) ?_
                    refine lv_iload hx hb d_Model_layStates_232 (lv_at hl 0 rfl) ?_
                    refine lv_iadd hx hb d_Model_layStates_234 ?_
                    refine lv_topi (fun v_1056 ev_1056 => ?_)
                    obtain ⟨qv_1056, hv_1056⟩ := zI_add (l := 241) (h := 481) zc_241 hy_1047 ev_1056 (by decide)
                    rw [li_241] at qv_1056
                    refine lv_dup2_11 hx hb d_Model_layStates_235 rfl rfl ?_
                    refine va_iald hx hb hK hP 7 0 rfl rfl (zI.inn hv_1056 (by decide)) d_Model_layStates_236 ?_
                    refine lv_topi (fun v_1057 ev_1057 => ?_)
                    refine lv_iconst (v := 1) hx hb d_Model_layStates_237 (by decide) ?_
                    refine lv_iadd hx hb d_Model_layStates_238 ?_
                    refine lv_topi (fun v_1058 ev_1058 => ?_)
                    refine va_iast hx hb hK hP hD hS 7 0 rfl rfl (zI.inn hv_1056 (by decide)) d_Model_layStates_239 (fun H locs hP hD hS => ?_)
                    obtain ⟨f_1059, gf_1059, uf_1059, hP, hD⟩ := z_newFu 7 hP hD rfl
                    have hP : va_P G.1 classes [(b18, .inl (G.2 0, 2, .inl b58)), (b20, .inl (G.2 0, 520, .inl b59)), (b21, .inl (G.2 0, 9640, .inl y_763)), (b22, .inl (G.2 0, 482, .inl y_764)), (b23, .inl (G.2 0, 482, .inl y_959)), (b24, .inl (G.2 0, 2, .inl y_960)), (b25, .inl (G.2 0, 482, .inl y_961)), (b26, .inl (G.2 0, 482, .inl f_1059)), (b27, .inl (G.2 0, 482, .inl y_963)), (b0, .inr (12, [.int b3, .ref b4, .ref b5, .ref b6, .ref b7, .int b8, .ref b9, .int b10, .int b11, .int b12, .int b13, .ref b14, .ref b15, .ref b16, .int b17, .ref b18, .ref b19, .ref b20, .ref b21, .ref b22, .ref b23, .ref b24, .ref b25, .ref b26, .ref b27, .ref b28, .ref b29, .int b30, .ref b31, .ref b32, .int b33, .int b34, .int b35, .int b36, .ref b37, .ref b38, .ref b39, .ref b40, .ref b41, .ref b42, .ref b43, .int b44, .ref b45, .ref b46, .int b47, .ref b48, .ref b49, .ref b50, .ref b51, .ref b52, .int b53, .ref b54, .ref b55, .ref b56])), (b4, .inl (G.2 0, 503, .inl b57))] H := hP
                    have hD := z_tie hP hD rfl
                    refine lv_aload_n hx hb d_Model_layStates_240 rfl (lv_at hl 4 rfl) ?_
                    refine va_get (D := G.1) (ci := 12) (v := .ref b23) (C := R_Model) (T := F_Model) (N := 54) hx hb hts i_Model hown hK hP 9 rfl rfl 20 (by decide) (hts _ q1129) (fun _ h9 => h9) rfl d_Model_layStates_241 ?_
                    refine lv_iload hx hb d_Model_layStates_244 (lv_at hl 3 rfl) ?_
                    refine lv_iload hx hb d_Model_layStates_246 (lv_at hl 1 rfl) ?_
                    refine lv_iadd hx hb d_Model_layStates_248 ?_
                    refine lv_topi (fun v_1060 ev_1060 => ?_)
                    obtain ⟨qv_1060, hv_1060⟩ := zI_add (l := 241) (h := 481) zc_241 hv_972 ev_1060 (by decide)
                    rw [li_241] at qv_1060
                    refine lv_iload hx hb d_Model_layStates_249 (lv_at hl 0 rfl) ?_
                    refine va_iast hx hb hK hP hD hS 4 0 rfl rfl (zI.inn hv_1060 (by decide)) d_Model_layStates_251 (fun H locs hP hD hS => ?_)
                    obtain ⟨f_1061, hf_1061, gf_1061, uf_1061, hP, hD⟩ := z_newfu 4 hP hD rfl hy_959 hy_1047
                    have hP : va_P G.1 classes [(b18, .inl (G.2 0, 2, .inl b58)), (b20, .inl (G.2 0, 520, .inl b59)), (b21, .inl (G.2 0, 9640, .inl y_763)), (b22, .inl (G.2 0, 482, .inl y_764)), (b23, .inl (G.2 0, 482, .inl f_1061)), (b24, .inl (G.2 0, 2, .inl y_960)), (b25, .inl (G.2 0, 482, .inl y_961)), (b26, .inl (G.2 0, 482, .inl f_1059)), (b27, .inl (G.2 0, 482, .inl y_963)), (b0, .inr (12, [.int b3, .ref b4, .ref b5, .ref b6, .ref b7, .int b8, .ref b9, .int b10, .int b11, .int b12, .int b13, .ref b14, .ref b15, .ref b16, .int b17, .ref b18, .ref b19, .ref b20, .ref b21, .ref b22, .ref b23, .ref b24, .ref b25, .ref b26, .ref b27, .ref b28, .ref b29, .int b30, .ref b31, .ref b32, .int b33, .int b34, .int b35, .int b36, .ref b37, .ref b38, .ref b39, .ref b40, .ref b41, .ref b42, .ref b43, .int b44, .ref b45, .ref b46, .int b47, .ref b48, .ref b49, .ref b50, .ref b51, .ref b52, .int b53, .ref b54, .ref b55, .ref b56])), (b4, .inl (G.2 0, 503, .inl b57))] H := hP
                    have hD := z_tie hP hD rfl
                    obtain ⟨v_1062, ev_1062⟩ : ∃ z : Int32, z = y_958 + 1 := ⟨_, rfl⟩
                    obtain ⟨qv_1062, hv_1062⟩ := zI_add (l := 1) (h := 241) hv_972 zc_1 ev_1062 (by decide)
                    rw [li_1] at qv_1062
                    refine lv_iinc (v := v_1062) (lv' := [(6, .int v_1062), (7, .int y_1047), (5, .int 1), (4, .int 241), (0, .ref b0), (1, .int 1), (2, .int b1), (3, .int b2)]) hx hb d_Model_layStates_252 hl (k := 1) rfl (by rw [ev_1062]; rfl) (by decide) rfl (fun ls hl => ?_)
                    refine lv_goto (tgt := 110) hx hb d_Model_layStates_255 (by decide) ?_
                    exact ihk_957 (v_1062) (f_1061) (y_960) (y_961) (f_1059) (y_963) _ _ _ (zI.wk (l' := 0) (h' := 241) hv_1062 (by decide)) hf_1061 hy_960 hy_961 (by omega) trivial trivial trivial (zm_up qv_1062 hmk_957 (by decide)) hP hD hS (lv_sub hl [0, 2, 3, 4, 5, 6, 7] rfl)
                  · have _nhc_1054 := hc_1054
                    have ni_1063 := (fa_eq _ _).mp hc_1054
                    refine lv_aload_n hx hb d_Model_layStates_182 rfl (lv_at hl 4 rfl) ?_
                    refine va_get (D := G.1) (ci := 12) (v := .ref b25) (C := R_Model) (T := F_Model) (N := 54) hx hb hts i_Model hown hK hP 9 rfl rfl 22 (by decide) (hts _ q1131) (fun _ h9 => h9) rfl d_Model_layStates_183 ?_
                    refine lv_iload hx hb d_Model_layStates_186 (lv_at hl 3 rfl) ?_
                    refine lv_iload hx hb d_Model_layStates_188 (lv_at hl 0 rfl) ?_
                    refine lv_iadd hx hb d_Model_layStates_190 ?_
                    refine lv_topi (fun v_1064 ev_1064 => ?_)
                    obtain ⟨qv_1064, hv_1064⟩ := zI_add (l := 241) (h := 481) zc_241 hy_1047 ev_1064 (by decide)
                    rw [li_241] at qv_1064
                    refine lv_iload hx hb d_Model_layStates_191 (lv_at hl 1 rfl) ?_
                    refine va_iast hx hb hK hP hD hS 6 0 rfl rfl (zI.inn hv_1064 (by decide)) d_Model_layStates_193 (fun H locs hP hD hS => ?_)
                    obtain ⟨f_1065, hf_1065, gf_1065, uf_1065, hP, hD⟩ := z_newfu 6 hP hD rfl hy_961 hv_972
                    have hP : va_P G.1 classes [(b18, .inl (G.2 0, 2, .inl b58)), (b20, .inl (G.2 0, 520, .inl b59)), (b21, .inl (G.2 0, 9640, .inl y_763)), (b22, .inl (G.2 0, 482, .inl y_764)), (b23, .inl (G.2 0, 482, .inl y_959)), (b24, .inl (G.2 0, 2, .inl y_960)), (b25, .inl (G.2 0, 482, .inl f_1065)), (b26, .inl (G.2 0, 482, .inl y_962)), (b27, .inl (G.2 0, 482, .inl y_963)), (b0, .inr (12, [.int b3, .ref b4, .ref b5, .ref b6, .ref b7, .int b8, .ref b9, .int b10, .int b11, .int b12, .int b13, .ref b14, .ref b15, .ref b16, .int b17, .ref b18, .ref b19, .ref b20, .ref b21, .ref b22, .ref b23, .ref b24, .ref b25, .ref b26, .ref b27, .ref b28, .ref b29, .int b30, .ref b31, .ref b32, .int b33, .int b34, .int b35, .int b36, .ref b37, .ref b38, .ref b39, .ref b40, .ref b41, .ref b42, .ref b43, .int b44, .ref b45, .ref b46, .int b47, .ref b48, .ref b49, .ref b50, .ref b51, .ref b52, .int b53, .ref b54, .ref b55, .ref b56])), (b4, .inl (G.2 0, 503, .inl b57))] H := hP
                    have hD := z_tie hP hD rfl
                    refine lv_aload_n hx hb d_Model_layStates_194 rfl (lv_at hl 4 rfl) ?_
                    refine va_get (D := G.1) (ci := 12) (v := .ref b26) (C := R_Model) (T := F_Model) (N := 54) hx hb hts i_Model hown hK hP 9 rfl rfl 23 (by decide) (hts _ q1132) (fun _ h9 => h9) rfl d_Model_layStates_195 ?_
                    refine lv_iload hx hb d_Model_layStates_198 (lv_at hl 3 rfl) ?_
                    refine lv_iload hx hb d_Model_layStates_200 (lv_at hl 0 rfl) ?_
                    refine lv_iadd hx hb d_Model_layStates_202 ?_
                    refine lv_topi (fun v_1066 ev_1066 => ?_)
                    obtain rfl : v_1064 = v_1066 := ev_1064.trans ev_1066.symm
                    refine lv_iconst (v := 0) hx hb d_Model_layStates_203 (by decide) ?_
                    refine va_iast hx hb hK hP hD hS 7 0 rfl rfl (zI.inn hv_1064 (by decide)) d_Model_layStates_204 (fun H locs hP hD hS => ?_)
                    obtain ⟨f_1067, gf_1067, uf_1067, hP, hD⟩ := z_newFu 7 hP hD rfl
                    have hP : va_P G.1 classes [(b18, .inl (G.2 0, 2, .inl b58)), (b20, .inl (G.2 0, 520, .inl b59)), (b21, .inl (G.2 0, 9640, .inl y_763)), (b22, .inl (G.2 0, 482, .inl y_764)), (b23, .inl (G.2 0, 482, .inl y_959)), (b24, .inl (G.2 0, 2, .inl y_960)), (b25, .inl (G.2 0, 482, .inl f_1065)), (b26, .inl (G.2 0, 482, .inl f_1067)), (b27, .inl (G.2 0, 482, .inl y_963)), (b0, .inr (12, [.int b3, .ref b4, .ref b5, .ref b6, .ref b7, .int b8, .ref b9, .int b10, .int b11, .int b12, .int b13, .ref b14, .ref b15, .ref b16, .int b17, .ref b18, .ref b19, .ref b20, .ref b21, .ref b22, .ref b23, .ref b24, .ref b25, .ref b26, .ref b27, .ref b28, .ref b29, .int b30, .ref b31, .ref b32, .int b33, .int b34, .int b35, .int b36, .ref b37, .ref b38, .ref b39, .ref b40, .ref b41, .ref b42, .ref b43, .int b44, .ref b45, .ref b46, .int b47, .ref b48, .ref b49, .ref b50, .ref b51, .ref b52, .int b53, .ref b54, .ref b55, .ref b56])), (b4, .inl (G.2 0, 503, .inl b57))] H := hP
                    have hD := z_tie hP hD rfl
                    refine lv_aload_n hx hb d_Model_layStates_205 rfl (lv_at hl 4 rfl) ?_
                    refine va_get (D := G.1) (ci := 12) (v := .ref b27) (C := R_Model) (T := F_Model) (N := 54) hx hb hts i_Model hown hK hP 9 rfl rfl 24 (by decide) (hts _ q1133) (fun _ h9 => h9) rfl d_Model_layStates_206 ?_
                    refine lv_iload hx hb d_Model_layStates_209 (lv_at hl 3 rfl) ?_
                    refine lv_iload hx hb d_Model_layStates_211 (lv_at hl 0 rfl) ?_
                    refine lv_iadd hx hb d_Model_layStates_213 ?_
                    refine lv_topi (fun v_1068 ev_1068 => ?_)
                    obtain rfl : v_1064 = v_1068 := ev_1064.trans ev_1068.symm
                    refine lv_iconst (v := 0) hx hb d_Model_layStates_214 (by decide) ?_
                    refine va_iast hx hb hK hP hD hS 8 0 rfl rfl (zI.inn hv_1064 (by decide)) d_Model_layStates_215 (fun H locs hP hD hS => ?_)
                    obtain ⟨f_1069, gf_1069, uf_1069, hP, hD⟩ := z_newFu 8 hP hD rfl
                    have hP : va_P G.1 classes [(b18, .inl (G.2 0, 2, .inl b58)), (b20, .inl (G.2 0, 520, .inl b59)), (b21, .inl (G.2 0, 9640, .inl y_763)), (b22, .inl (G.2 0, 482, .inl y_764)), (b23, .inl (G.2 0, 482, .inl y_959)), (b24, .inl (G.2 0, 2, .inl y_960)), (b25, .inl (G.2 0, 482, .inl f_1065)), (b26, .inl (G.2 0, 482, .inl f_1067)), (b27, .inl (G.2 0, 482, .inl f_1069)), (b0, .inr (12, [.int b3, .ref b4, .ref b5, .ref b6, .ref b7, .int b8, .ref b9, .int b10, .int b11, .int b12, .int b13, .ref b14, .ref b15, .ref b16, .int b17, .ref b18, .ref b19, .ref b20, .ref b21, .ref b22, .ref b23, .ref b24, .ref b25, .ref b26, .ref b27, .ref b28, .ref b29, .int b30, .ref b31, .ref b32, .int b33, .int b34, .int b35, .int b36, .ref b37, .ref b38, .ref b39, .ref b40, .ref b41, .ref b42, .ref b43, .int b44, .ref b45, .ref b46, .int b47, .ref b48, .ref b49, .ref b50, .ref b51, .ref b52, .int b53, .ref b54, .ref b55, .ref b56])), (b4, .inl (G.2 0, 503, .inl b57))] H := hP
                    have hD := z_tie hP hD rfl
                    refine lv_aload_n hx hb d_Model_layStates_216 rfl (lv_at hl 4 rfl) ?_
                    refine va_get (D := G.1) (ci := 12) (v := .ref b24) (C := R_Model) (T := F_Model) (N := 54) hx hb hts i_Model hown hK hP 9 rfl rfl 21 (by decide) (hts _ q1130) (fun _ h9 => h9) rfl d_Model_layStates_217 ?_
                    refine lv_iload_n hx hb d_Model_layStates_220 rfl (lv_at hl 5 rfl) ?_
                    refine lv_dup2_11 hx hb d_Model_layStates_221 rfl rfl ?_
                    refine va_iald hx hb hK hP 5 0 rfl rfl (i := 1) (z_in rfl) d_Model_layStates_222 ?_
                    refine lv_topi (fun v_1070 ev_1070 => ?_)
                    obtain rfl : v_1049 = v_1070 := ev_1049.trans ev_1070.symm
                    refine lv_iconst (v := 1) hx hb d_Model_layStates_223 (by decide) ?_
                    refine lv_iadd hx hb d_Model_layStates_224 ?_
                    refine lv_topi (fun v_1071 ev_1071 => ?_)
                    obtain ⟨qv_1071, hv_1071⟩ := zI_add (l := 1) (h := 241) hv_1050 zc_1 ev_1071 (by decide)
                    rw [li_1] at qv_1071
                    refine va_iast hx hb hK hP hD hS 5 0 rfl rfl (i := 1) (z_in rfl) d_Model_layStates_225 (fun H locs hP hD hS => ?_)
                    obtain ⟨f_1072, hf_1072, gf_1072, uf_1072, hP, hD⟩ := z_newfu 5 hP hD rfl hy_960 (zI.wk (l' := 0) (h' := 241) hv_1071 (by decide))
                    have hP : va_P G.1 classes [(b18, .inl (G.2 0, 2, .inl b58)), (b20, .inl (G.2 0, 520, .inl b59)), (b21, .inl (G.2 0, 9640, .inl y_763)), (b22, .inl (G.2 0, 482, .inl y_764)), (b23, .inl (G.2 0, 482, .inl y_959)), (b24, .inl (G.2 0, 2, .inl f_1072)), (b25, .inl (G.2 0, 482, .inl f_1065)), (b26, .inl (G.2 0, 482, .inl f_1067)), (b27, .inl (G.2 0, 482, .inl f_1069)), (b0, .inr (12, [.int b3, .ref b4, .ref b5, .ref b6, .ref b7, .int b8, .ref b9, .int b10, .int b11, .int b12, .int b13, .ref b14, .ref b15, .ref b16, .int b17, .ref b18, .ref b19, .ref b20, .ref b21, .ref b22, .ref b23, .ref b24, .ref b25, .ref b26, .ref b27, .ref b28, .ref b29, .int b30, .ref b31, .ref b32, .int b33, .int b34, .int b35, .int b36, .ref b37, .ref b38, .ref b39, .ref b40, .ref b41, .ref b42, .ref b43, .int b44, .ref b45, .ref b46, .int b47, .ref b48, .ref b49, .ref b50, .ref b51, .ref b52, .int b53, .ref b54, .ref b55, .ref b56])), (b4, .inl (G.2 0, 503, .inl b57))] H := hP
                    have hD := z_tie hP hD rfl
                    refine lv_aload_n hx hb d_Model_layStates_226 rfl (lv_at hl 4 rfl) ?_
                    refine va_get (D := G.1) (ci := 12) (v := .ref b26) (C := R_Model) (T := F_Model) (N := 54) hx hb hts i_Model hown hK hP 9 rfl rfl 23 (by decide) (hts _ q1132) (fun _ h9 => h9) rfl d_Model_layStates_227 ?_
                    refine lv_iload hx hb d_Model_layStates_230 (lv_at hl 3 rfl) ?_
                    refine lv_iload hx hb d_Model_layStates_232 (lv_at hl 0 rfl) ?_
                    refine lv_iadd hx hb d_Model_layStates_234 ?_
                    refine lv_topi (fun v_1073 ev_1073 => ?_)
                    obtain rfl : v_1064 = v_1073 := ev_1064.trans ev_1073.symm
                    refine lv_dup2_11 hx hb d_Model_layStates_235 rfl rfl ?_
                    refine va_iald hx hb hK hP 7 0 rfl rfl (zI.inn hv_1064 (by decide)) d_Model_layStates_236 ?_
                    refine lv_topi (fun v_1074 ev_1074 => ?_)
                    obtain rfl : v_1074 = 0 := ev_1074.trans gf_1067
                    refine lv_iconst (v := 1) hx hb d_Model_layStates_237 (by decide) ?_
                    refine lv_iadd hx hb d_Model_layStates_238 ?_
                    refine z_topi (y := 1) (by decide +kernel) ?_
                    refine va_iast hx hb hK hP hD hS 7 0 rfl rfl (zI.inn hv_1064 (by decide)) d_Model_layStates_239 (fun H locs hP hD hS => ?_)
                    obtain ⟨f_1075, gf_1075, uf_1075, hP, hD⟩ := z_newFu 7 hP hD rfl
                    have hP : va_P G.1 classes [(b18, .inl (G.2 0, 2, .inl b58)), (b20, .inl (G.2 0, 520, .inl b59)), (b21, .inl (G.2 0, 9640, .inl y_763)), (b22, .inl (G.2 0, 482, .inl y_764)), (b23, .inl (G.2 0, 482, .inl y_959)), (b24, .inl (G.2 0, 2, .inl f_1072)), (b25, .inl (G.2 0, 482, .inl f_1065)), (b26, .inl (G.2 0, 482, .inl f_1075)), (b27, .inl (G.2 0, 482, .inl f_1069)), (b0, .inr (12, [.int b3, .ref b4, .ref b5, .ref b6, .ref b7, .int b8, .ref b9, .int b10, .int b11, .int b12, .int b13, .ref b14, .ref b15, .ref b16, .int b17, .ref b18, .ref b19, .ref b20, .ref b21, .ref b22, .ref b23, .ref b24, .ref b25, .ref b26, .ref b27, .ref b28, .ref b29, .int b30, .ref b31, .ref b32, .int b33, .int b34, .int b35, .int b36, .ref b37, .ref b38, .ref b39, .ref b40, .ref b41, .ref b42, .ref b43, .int b44, .ref b45, .ref b46, .int b47, .ref b48, .ref b49, .ref b50, .ref b51, .ref b52, .int b53, .ref b54, .ref b55, .ref b56])), (b4, .inl (G.2 0, 503, .inl b57))] H := hP
                    have hD := z_tie hP hD rfl
                    refine lv_aload_n hx hb d_Model_layStates_240 rfl (lv_at hl 4 rfl) ?_
                    refine va_get (D := G.1) (ci := 12) (v := .ref b23) (C := R_Model) (T := F_Model) (N := 54) hx hb hts i_Model hown hK hP 9 rfl rfl 20 (by decide) (hts _ q1129) (fun _ h9 => h9) rfl d_Model_layStates_241 ?_
                    refine lv_iload hx hb d_Model_layStates_244 (lv_at hl 3 rfl) ?_
                    refine lv_iload hx hb d_Model_layStates_246 (lv_at hl 1 rfl) ?_
                    refine lv_iadd hx hb d_Model_layStates_248 ?_
                    refine lv_topi (fun v_1076 ev_1076 => ?_)
                    obtain ⟨qv_1076, hv_1076⟩ := zI_add (l := 241) (h := 481) zc_241 hv_972 ev_1076 (by decide)
                    rw [li_241] at qv_1076
                    refine lv_iload hx hb d_Model_layStates_249 (lv_at hl 0 rfl) ?_
                    refine va_iast hx hb hK hP hD hS 4 0 rfl rfl (zI.inn hv_1076 (by decide)) d_Model_layStates_251 (fun H locs hP hD hS => ?_)
                    obtain ⟨f_1077, hf_1077, gf_1077, uf_1077, hP, hD⟩ := z_newfu 4 hP hD rfl hy_959 hy_1047
                    have hP : va_P G.1 classes [(b18, .inl (G.2 0, 2, .inl b58)), (b20, .inl (G.2 0, 520, .inl b59)), (b21, .inl (G.2 0, 9640, .inl y_763)), (b22, .inl (G.2 0, 482, .inl y_764)), (b23, .inl (G.2 0, 482, .inl f_1077)), (b24, .inl (G.2 0, 2, .inl f_1072)), (b25, .inl (G.2 0, 482, .inl f_1065)), (b26, .inl (G.2 0, 482, .inl f_1075)), (b27, .inl (G.2 0, 482, .inl f_1069)), (b0, .inr (12, [.int b3, .ref b4, .ref b5, .ref b6, .ref b7, .int b8, .ref b9, .int b10, .int b11, .int b12, .int b13, .ref b14, .ref b15, .ref b16, .int b17, .ref b18, .ref b19, .ref b20, .ref b21, .ref b22, .ref b23, .ref b24, .ref b25, .ref b26, .ref b27, .ref b28, .ref b29, .int b30, .ref b31, .ref b32, .int b33, .int b34, .int b35, .int b36, .ref b37, .ref b38, .ref b39, .ref b40, .ref b41, .ref b42, .ref b43, .int b44, .ref b45, .ref b46, .int b47, .ref b48, .ref b49, .ref b50, .ref b51, .ref b52, .int b53, .ref b54, .ref b55, .ref b56])), (b4, .inl (G.2 0, 503, .inl b57))] H := hP
                    have hD := z_tie hP hD rfl
                    obtain ⟨v_1078, ev_1078⟩ : ∃ z : Int32, z = y_958 + 1 := ⟨_, rfl⟩
                    obtain ⟨qv_1078, hv_1078⟩ := zI_add (l := 1) (h := 241) hv_972 zc_1 ev_1078 (by decide)
                    rw [li_1] at qv_1078
                    refine lv_iinc (v := v_1078) (lv' := [(6, .int v_1078), (7, .int y_1047), (5, .int 1), (4, .int 241), (0, .ref b0), (1, .int 1), (2, .int b1), (3, .int b2)]) hx hb d_Model_layStates_252 hl (k := 1) rfl (by rw [ev_1078]; rfl) (by decide) rfl (fun ls hl => ?_)
                    refine lv_goto (tgt := 110) hx hb d_Model_layStates_255 (by decide) ?_
                    exact ihk_957 (v_1078) (f_1077) (f_1072) (f_1065) (f_1075) (f_1069) _ _ _ (zI.wk (l' := 0) (h' := 241) hv_1078 (by decide)) hf_1077 hf_1072 hf_1065 (by rw [gf_1072]; omega) trivial trivial trivial (zm_up qv_1078 hmk_957 (by decide)) hP hD hS (lv_sub hl [0, 2, 3, 4, 5, 6, 7] rfl)
                · have _nhc_1051 := hc_1051
                  have ni_1079 := (fa_lt _ _).mp (zi_nle hc_1051)
                  have hv_1080 : zI y_1047 0 239 := zI.lt_l hy_1047 hv_1050 (zi_nle hc_1051) (by decide)
                  have hv_1081 : zI v_1049 1 240 := zI.lt_r hy_1047 hv_1050 (zi_nle hc_1051) (by decide)
                  refine lv_aload_n hx hb d_Model_layStates_140 rfl (lv_at hl 4 rfl) ?_
                  refine lv_iload hx hb d_Model_layStates_141 (lv_at hl 3 rfl) ?_
                  refine lv_aload_n hx hb d_Model_layStates_143 rfl (lv_at hl 4 rfl) ?_
                  refine va_get (D := G.1) (ci := 12) (v := .ref b25) (C := R_Model) (T := F_Model) (N := 54) hx hb hts i_Model hown hK hP 9 rfl rfl 22 (by decide) (hts _ q1131) (fun _ h9 => h9) rfl d_Model_layStates_144 ?_
                  refine lv_iload hx hb d_Model_layStates_147 (lv_at hl 3 rfl) ?_
                  refine lv_iload hx hb d_Model_layStates_149 (lv_at hl 0 rfl) ?_
                  refine lv_iadd hx hb d_Model_layStates_151 ?_
                  refine lv_topi (fun v_1082 ev_1082 => ?_)
                  obtain ⟨qv_1082, hv_1082⟩ := zI_add (l := 241) (h := 480) zc_241 hv_1080 ev_1082 (by decide)
                  rw [li_241] at qv_1082
                  refine va_iald hx hb hK hP 6 0 rfl rfl (zI.inn hv_1082 (by decide)) d_Model_layStates_152 ?_
                  refine lv_topi (fun v_1083 ev_1083 => ?_)
                  have hv_1083 : zI v_1083 0 240 := (hy_961 _).eq ev_1083
                  refine lv_iadd hx hb d_Model_layStates_153 ?_
                  refine lv_topi (fun v_1084 ev_1084 => ?_)
                  obtain ⟨qv_1084, hv_1084⟩ := zI_add (l := 241) (h := 481) zc_241 hv_1083 ev_1084 (by decide)
                  rw [li_241] at qv_1084
                  refine lv_iload hx hb d_Model_layStates_154 (lv_at hl 3 rfl) ?_
                  refine lv_iload hx hb d_Model_layStates_156 (lv_at hl 1 rfl) ?_
                  refine lv_iadd hx hb d_Model_layStates_158 ?_
                  refine lv_topi (fun v_1085 ev_1085 => ?_)
                  obtain ⟨qv_1085, hv_1085⟩ := zI_add (l := 241) (h := 481) zc_241 hv_972 ev_1085 (by decide)
                  rw [li_241] at qv_1085
                  refine z_callV (index := 221) (As := [.int v_1084, .int v_1085]) (rest := []) (wr := [(b18, .inl (G.2 0, 2, .inl b58)), (b20, .inl (G.2 0, 520, .inl b59)), (b23, .inl (G.2 0, 482, .inl y_959)), (b24, .inl (G.2 0, 2, .inl y_960)), (b25, .inl (G.2 0, 482, .inl y_961)), (b26, .inl (G.2 0, 482, .inl y_962)), (b27, .inl (G.2 0, 482, .inl y_963)), (b4, .inl (G.2 0, 503, .inl b57))]) Z (s1_Model_areAlike l G (b0) (v_1084) (v_1085) (b3) (b4) (b5) (b6) (b7) (b8) (b9) (b10) (b11) (b12) (b13) (b14) (b15) (b16) (b17) (b18) (b19) (b20) (b21) (b22) (b23) (b24) (b25) (b26) (b27) (b28) (b29) (b30) (b31) (b32) (b33) (b34) (b35) (b36) (b37) (b38) (b39) (b40) (b41) (b42) (b43) (b44) (b45) (b46) (b47) (b48) (b49) (b50) (b51) (b52) (b53) (b54) (b55) (b56) (y_763) (y_764) (zI.wk (l' := 0) (h' := 481) hv_1084 (by decide)) (zI.wk (l' := 0) (h' := 481) hv_1085 (by decide)) hb8 hb10 hb11 hb13 hb17 hb30 hb33 hb44 hb47 hb53 hy_764) hl.1 q1392 q1394 qs64 q14 q1395 ⟨by decide, by decide, by show _ = some 2; decide +kernel⟩ ⟨Nat.le_of_ble_eq_true rfl, Nat.le_of_ble_eq_true rfl⟩ ⟨Nat.le_of_ble_eq_true rfl, Nat.le_of_ble_eq_true rfl⟩ rfl (Nat.le_of_ble_eq_true rfl) d_Model_layStates_159 hP hD hS hA 9 12 rfl rfl rfl [9, 2, 3] [0, 1, 4, 5, 6, 7, 8, 10] rfl rfl rfl rfl (by decide) (fun v w1 H locs hw_1086 hP hD hS => ?_)
                  obtain ⟨x_1087, rfl, rfl, hx_1087⟩ := hw_1086
                  have hP : va_P G.1 classes [(b18, .inl (G.2 0, 2, .inl b58)), (b20, .inl (G.2 0, 520, .inl b59)), (b23, .inl (G.2 0, 482, .inl y_959)), (b24, .inl (G.2 0, 2, .inl y_960)), (b25, .inl (G.2 0, 482, .inl y_961)), (b26, .inl (G.2 0, 482, .inl y_962)), (b27, .inl (G.2 0, 482, .inl y_963)), (b4, .inl (G.2 0, 503, .inl b57)), (b0, .inr (12, [.int b3, .ref b4, .ref b5, .ref b6, .ref b7, .int b8, .ref b9, .int b10, .int b11, .int b12, .int b13, .ref b14, .ref b15, .ref b16, .int b17, .ref b18, .ref b19, .ref b20, .ref b21, .ref b22, .ref b23, .ref b24, .ref b25, .ref b26, .ref b27, .ref b28, .ref b29, .int b30, .ref b31, .ref b32, .int b33, .int b34, .int b35, .int b36, .ref b37, .ref b38, .ref b39, .ref b40, .ref b41, .ref b42, .ref b43, .int b44, .ref b45, .ref b46, .int b47, .ref b48, .ref b49, .ref b50, .ref b51, .ref b52, .int b53, .ref b54, .ref b55, .ref b56])), (b21, .inl (G.2 0, 9640, .inl y_763)), (b22, .inl (G.2 0, 482, .inl y_764))] H := hP
                  have hD := z_tie hP hD rfl
                  refine W.widen (k := 0) (n := 0) (Nat.le_of_ble_eq_true rfl) (Nat.le_of_ble_eq_true rfl) ?_
                  refine lv_if_ne (tgt := 171) hx hb d_Model_layStates_162 (by decide) (fun hc_1088 => ?_) (fun hc_1088 => ?_)
                  · have _nhc_1088 := hc_1088
                    have ni_1089 : ¬ (x_1087 : Int32).toInt = (0 : Int32).toInt := fun z => hc_1088 ((fa_eq _ _).mpr z)
                    simp only [li_0] at ni_1089
                    have hv_1090 : zI x_1087 1 1 := zI.ne_lo hx_1087 zc_0 hc_1088 (by decide)
                    refine lv_iload hx hb d_Model_layStates_171 (lv_at hl 0 rfl) ?_
                    refine lv_aload_n hx hb d_Model_layStates_173 rfl (lv_at hl 4 rfl) ?_
                    refine va_get (D := G.1) (ci := 12) (v := .ref b24) (C := R_Model) (T := F_Model) (N := 54) hx hb hts i_Model hown hK hP 8 rfl rfl 21 (by decide) (hts _ q1130) (fun _ h9 => h9) rfl d_Model_layStates_174 ?_
                    refine lv_iload_n hx hb d_Model_layStates_177 rfl (lv_at hl 5 rfl) ?_
                    refine va_iald hx hb hK hP 3 0 rfl rfl (i := 1) (z_in rfl) d_Model_layStates_178 ?_
                    refine lv_topi (fun v_1091 ev_1091 => ?_)
                    obtain rfl : v_1049 = v_1091 := ev_1049.trans ev_1091.symm
                    refine lv_icmp_ne (tgt := 226) hx hb d_Model_layStates_179 (by decide) (fun hc_1092 => ?_) (fun hc_1092 => ?_)
                    · have _nhc_1092 := hc_1092
                      have ni_1093 : ¬ (y_1047 : Int32).toInt = (v_1049 : Int32).toInt := fun z => hc_1092 ((fa_eq _ _).mpr z)
                      refine lv_aload_n hx hb d_Model_layStates_226 rfl (lv_at hl 4 rfl) ?_
                      refine va_get (D := G.1) (ci := 12) (v := .ref b26) (C := R_Model) (T := F_Model) (N := 54) hx hb hts i_Model hown hK hP 8 rfl rfl 23 (by decide) (hts _ q1132) (fun _ h9 => h9) rfl d_Model_layStates_227 ?_
                      refine lv_iload hx hb d_Model_layStates_230 (lv_at hl 3 rfl) ?_
                      refine lv_iload hx hb d_Model_layStates_232 (lv_at hl 0 rfl) ?_
                      refine lv_iadd hx hb d_Model_layStates_234 ?_
                      refine lv_topi (fun v_1094 ev_1094 => ?_)
                      obtain rfl : v_1082 = v_1094 := ev_1082.trans ev_1094.symm
                      refine lv_dup2_11 hx hb d_Model_layStates_235 rfl rfl ?_
                      refine va_iald hx hb hK hP 5 0 rfl rfl (zI.inn hv_1082 (by decide)) d_Model_layStates_236 ?_
                      refine lv_topi (fun v_1095 ev_1095 => ?_)
                      refine lv_iconst (v := 1) hx hb d_Model_layStates_237 (by decide) ?_
                      refine lv_iadd hx hb d_Model_layStates_238 ?_
                      refine lv_topi (fun v_1096 ev_1096 => ?_)
                      refine va_iast hx hb hK hP hD hS 5 0 rfl rfl (zI.inn hv_1082 (by decide)) d_Model_layStates_239 (fun H locs hP hD hS => ?_)
                      obtain ⟨f_1097, gf_1097, uf_1097, hP, hD⟩ := z_newFu 5 hP hD rfl
                      have hP : va_P G.1 classes [(b18, .inl (G.2 0, 2, .inl b58)), (b20, .inl (G.2 0, 520, .inl b59)), (b23, .inl (G.2 0, 482, .inl y_959)), (b24, .inl (G.2 0, 2, .inl y_960)), (b25, .inl (G.2 0, 482, .inl y_961)), (b26, .inl (G.2 0, 482, .inl f_1097)), (b27, .inl (G.2 0, 482, .inl y_963)), (b4, .inl (G.2 0, 503, .inl b57)), (b0, .inr (12, [.int b3, .ref b4, .ref b5, .ref b6, .ref b7, .int b8, .ref b9, .int b10, .int b11, .int b12, .int b13, .ref b14, .ref b15, .ref b16, .int b17, .ref b18, .ref b19, .ref b20, .ref b21, .ref b22, .ref b23, .ref b24, .ref b25, .ref b26, .ref b27, .ref b28, .ref b29, .int b30, .ref b31, .ref b32, .int b33, .int b34, .int b35, .int b36, .ref b37, .ref b38, .ref b39, .ref b40, .ref b41, .ref b42, .ref b43, .int b44, .ref b45, .ref b46, .int b47, .ref b48, .ref b49, .ref b50, .ref b51, .ref b52, .int b53, .ref b54, .ref b55, .ref b56])), (b21, .inl (G.2 0, 9640, .inl y_763)), (b22, .inl (G.2 0, 482, .inl y_764))] H := hP
                      have hD := z_tie hP hD rfl
                      refine lv_aload_n hx hb d_Model_layStates_240 rfl (lv_at hl 4 rfl) ?_
                      refine va_get (D := G.1) (ci := 12) (v := .ref b23) (C := R_Model) (T := F_Model) (N := 54) hx hb hts i_Model hown hK hP 8 rfl rfl 20 (by decide) (hts _ q1129) (fun _ h9 => h9) rfl d_Model_layStates_241 ?_
                      refine lv_iload hx hb d_Model_layStates_244 (lv_at hl 3 rfl) ?_
                      refine lv_iload hx hb d_Model_layStates_246 (lv_at hl 1 rfl) ?_
                      refine lv_iadd hx hb d_Model_layStates_248 ?_
                      refine lv_topi (fun v_1098 ev_1098 => ?_)
                      obtain rfl : v_1085 = v_1098 := ev_1085.trans ev_1098.symm
                      refine lv_iload hx hb d_Model_layStates_249 (lv_at hl 0 rfl) ?_
                      refine va_iast hx hb hK hP hD hS 2 0 rfl rfl (zI.inn hv_1085 (by decide)) d_Model_layStates_251 (fun H locs hP hD hS => ?_)
                      obtain ⟨f_1099, hf_1099, gf_1099, uf_1099, hP, hD⟩ := z_newfu 2 hP hD rfl hy_959 (zI.wk (l' := 0) (h' := 240) hv_1080 (by decide))
                      have hP : va_P G.1 classes [(b18, .inl (G.2 0, 2, .inl b58)), (b20, .inl (G.2 0, 520, .inl b59)), (b23, .inl (G.2 0, 482, .inl f_1099)), (b24, .inl (G.2 0, 2, .inl y_960)), (b25, .inl (G.2 0, 482, .inl y_961)), (b26, .inl (G.2 0, 482, .inl f_1097)), (b27, .inl (G.2 0, 482, .inl y_963)), (b4, .inl (G.2 0, 503, .inl b57)), (b0, .inr (12, [.int b3, .ref b4, .ref b5, .ref b6, .ref b7, .int b8, .ref b9, .int b10, .int b11, .int b12, .int b13, .ref b14, .ref b15, .ref b16, .int b17, .ref b18, .ref b19, .ref b20, .ref b21, .ref b22, .ref b23, .ref b24, .ref b25, .ref b26, .ref b27, .ref b28, .ref b29, .int b30, .ref b31, .ref b32, .int b33, .int b34, .int b35, .int b36, .ref b37, .ref b38, .ref b39, .ref b40, .ref b41, .ref b42, .ref b43, .int b44, .ref b45, .ref b46, .int b47, .ref b48, .ref b49, .ref b50, .ref b51, .ref b52, .int b53, .ref b54, .ref b55, .ref b56])), (b21, .inl (G.2 0, 9640, .inl y_763)), (b22, .inl (G.2 0, 482, .inl y_764))] H := hP
                      have hD := z_tie hP hD rfl
                      obtain ⟨v_1100, ev_1100⟩ : ∃ z : Int32, z = y_958 + 1 := ⟨_, rfl⟩
                      obtain ⟨qv_1100, hv_1100⟩ := zI_add (l := 1) (h := 241) hv_972 zc_1 ev_1100 (by decide)
                      rw [li_1] at qv_1100
                      refine lv_iinc (v := v_1100) (lv' := [(6, .int v_1100), (7, .int y_1047), (5, .int 1), (4, .int 241), (0, .ref b0), (1, .int 1), (2, .int b1), (3, .int b2)]) hx hb d_Model_layStates_252 hl (k := 1) rfl (by rw [ev_1100]; rfl) (by decide) rfl (fun ls hl => ?_)
                      refine lv_goto (tgt := 110) hx hb d_Model_layStates_255 (by decide) ?_
                      exact ihk_957 (v_1100) (f_1099) (y_960) (y_961) (f_1097) (y_963) _ _ _ (zI.wk (l' := 0) (h' := 241) hv_1100 (by decide)) hf_1099 hy_960 hy_961 (by omega) trivial trivial trivial (zm_up qv_1100 hmk_957 (by decide)) (hP.sub [0, 1, 9, 10, 2, 3, 4, 5, 6, 8, 7] rfl) (hD.sub [0, 1, 9, 10, 2, 3, 4, 5, 6, 8, 7] (by decide) rfl) hS (lv_sub hl [0, 2, 3, 4, 5, 6, 7] rfl)
                    · have _nhc_1092 := hc_1092
                      have ni_1101 := (fa_eq _ _).mp hc_1092
                      refine lv_aload_n hx hb d_Model_layStates_182 rfl (lv_at hl 4 rfl) ?_
                      refine va_get (D := G.1) (ci := 12) (v := .ref b25) (C := R_Model) (T := F_Model) (N := 54) hx hb hts i_Model hown hK hP 8 rfl rfl 22 (by decide) (hts _ q1131) (fun _ h9 => h9) rfl d_Model_layStates_183 ?_
                      refine lv_iload hx hb d_Model_layStates_186 (lv_at hl 3 rfl) ?_
                      refine lv_iload hx hb d_Model_layStates_188 (lv_at hl 0 rfl) ?_
                      refine lv_iadd hx hb d_Model_layStates_190 ?_
                      refine lv_topi (fun v_1102 ev_1102 => ?_)
                      obtain rfl : v_1082 = v_1102 := ev_1082.trans ev_1102.symm
                      refine lv_iload hx hb d_Model_layStates_191 (lv_at hl 1 rfl) ?_
                      refine va_iast hx hb hK hP hD hS 4 0 rfl rfl (zI.inn hv_1082 (by decide)) d_Model_layStates_193 (fun H locs hP hD hS => ?_)
                      obtain ⟨f_1103, hf_1103, gf_1103, uf_1103, hP, hD⟩ := z_newfu 4 hP hD rfl hy_961 hv_972
                      have hP : va_P G.1 classes [(b18, .inl (G.2 0, 2, .inl b58)), (b20, .inl (G.2 0, 520, .inl b59)), (b23, .inl (G.2 0, 482, .inl y_959)), (b24, .inl (G.2 0, 2, .inl y_960)), (b25, .inl (G.2 0, 482, .inl f_1103)), (b26, .inl (G.2 0, 482, .inl y_962)), (b27, .inl (G.2 0, 482, .inl y_963)), (b4, .inl (G.2 0, 503, .inl b57)), (b0, .inr (12, [.int b3, .ref b4, .ref b5, .ref b6, .ref b7, .int b8, .ref b9, .int b10, .int b11, .int b12, .int b13, .ref b14, .ref b15, .ref b16, .int b17, .ref b18, .ref b19, .ref b20, .ref b21, .ref b22, .ref b23, .ref b24, .ref b25, .ref b26, .ref b27, .ref b28, .ref b29, .int b30, .ref b31, .ref b32, .int b33, .int b34, .int b35, .int b36, .ref b37, .ref b38, .ref b39, .ref b40, .ref b41, .ref b42, .ref b43, .int b44, .ref b45, .ref b46, .int b47, .ref b48, .ref b49, .ref b50, .ref b51, .ref b52, .int b53, .ref b54, .ref b55, .ref b56])), (b21, .inl (G.2 0, 9640, .inl y_763)), (b22, .inl (G.2 0, 482, .inl y_764))] H := hP
                      have hD := z_tie hP hD rfl
                      refine lv_aload_n hx hb d_Model_layStates_194 rfl (lv_at hl 4 rfl) ?_
                      refine va_get (D := G.1) (ci := 12) (v := .ref b26) (C := R_Model) (T := F_Model) (N := 54) hx hb hts i_Model hown hK hP 8 rfl rfl 23 (by decide) (hts _ q1132) (fun _ h9 => h9) rfl d_Model_layStates_195 ?_
                      refine lv_iload hx hb d_Model_layStates_198 (lv_at hl 3 rfl) ?_
                      refine lv_iload hx hb d_Model_layStates_200 (lv_at hl 0 rfl) ?_
                      refine lv_iadd hx hb d_Model_layStates_202 ?_
                      refine lv_topi (fun v_1104 ev_1104 => ?_)
                      obtain rfl : v_1082 = v_1104 := ev_1082.trans ev_1104.symm
                      refine lv_iconst (v := 0) hx hb d_Model_layStates_203 (by decide) ?_
                      refine va_iast hx hb hK hP hD hS 5 0 rfl rfl (zI.inn hv_1082 (by decide)) d_Model_layStates_204 (fun H locs hP hD hS => ?_)
                      obtain ⟨f_1105, gf_1105, uf_1105, hP, hD⟩ := z_newFu 5 hP hD rfl
                      have hP : va_P G.1 classes [(b18, .inl (G.2 0, 2, .inl b58)), (b20, .inl (G.2 0, 520, .inl b59)), (b23, .inl (G.2 0, 482, .inl y_959)), (b24, .inl (G.2 0, 2, .inl y_960)), (b25, .inl (G.2 0, 482, .inl f_1103)), (b26, .inl (G.2 0, 482, .inl f_1105)), (b27, .inl (G.2 0, 482, .inl y_963)), (b4, .inl (G.2 0, 503, .inl b57)), (b0, .inr (12, [.int b3, .ref b4, .ref b5, .ref b6, .ref b7, .int b8, .ref b9, .int b10, .int b11, .int b12, .int b13, .ref b14, .ref b15, .ref b16, .int b17, .ref b18, .ref b19, .ref b20, .ref b21, .ref b22, .ref b23, .ref b24, .ref b25, .ref b26, .ref b27, .ref b28, .ref b29, .int b30, .ref b31, .ref b32, .int b33, .int b34, .int b35, .int b36, .ref b37, .ref b38, .ref b39, .ref b40, .ref b41, .ref b42, .ref b43, .int b44, .ref b45, .ref b46, .int b47, .ref b48, .ref b49, .ref b50, .ref b51, .ref b52, .int b53, .ref b54, .ref b55, .ref b56])), (b21, .inl (G.2 0, 9640, .inl y_763)), (b22, .inl (G.2 0, 482, .inl y_764))] H := hP
                      have hD := z_tie hP hD rfl
                      refine lv_aload_n hx hb d_Model_layStates_205 rfl (lv_at hl 4 rfl) ?_
                      refine va_get (D := G.1) (ci := 12) (v := .ref b27) (C := R_Model) (T := F_Model) (N := 54) hx hb hts i_Model hown hK hP 8 rfl rfl 24 (by decide) (hts _ q1133) (fun _ h9 => h9) rfl d_Model_layStates_206 ?_
                      refine lv_iload hx hb d_Model_layStates_209 (lv_at hl 3 rfl) ?_
                      refine lv_iload hx hb d_Model_layStates_211 (lv_at hl 0 rfl) ?_
                      refine lv_iadd hx hb d_Model_layStates_213 ?_
                      refine lv_topi (fun v_1106 ev_1106 => ?_)
                      obtain rfl : v_1082 = v_1106 := ev_1082.trans ev_1106.symm
                      refine lv_iconst (v := 0) hx hb d_Model_layStates_214 (by decide) ?_
                      refine va_iast hx hb hK hP hD hS 6 0 rfl rfl (zI.inn hv_1082 (by decide)) d_Model_layStates_215 (fun H locs hP hD hS => ?_)
                      obtain ⟨f_1107, gf_1107, uf_1107, hP, hD⟩ := z_newFu 6 hP hD rfl
                      have hP : va_P G.1 classes [(b18, .inl (G.2 0, 2, .inl b58)), (b20, .inl (G.2 0, 520, .inl b59)), (b23, .inl (G.2 0, 482, .inl y_959)), (b24, .inl (G.2 0, 2, .inl y_960)), (b25, .inl (G.2 0, 482, .inl f_1103)), (b26, .inl (G.2 0, 482, .inl f_1105)), (b27, .inl (G.2 0, 482, .inl f_1107)), (b4, .inl (G.2 0, 503, .inl b57)), (b0, .inr (12, [.int b3, .ref b4, .ref b5, .ref b6, .ref b7, .int b8, .ref b9, .int b10, .int b11, .int b12, .int b13, .ref b14, .ref b15, .ref b16, .int b17, .ref b18, .ref b19, .ref b20, .ref b21, .ref b22, .ref b23, .ref b24, .ref b25, .ref b26, .ref b27, .ref b28, .ref b29, .int b30, .ref b31, .ref b32, .int b33, .int b34, .int b35, .int b36, .ref b37, .ref b38, .ref b39, .ref b40, .ref b41, .ref b42, .ref b43, .int b44, .ref b45, .ref b46, .int b47, .ref b48, .ref b49, .ref b50, .ref b51, .ref b52, .int b53, .ref b54, .ref b55, .ref b56])), (b21, .inl (G.2 0, 9640, .inl y_763)), (b22, .inl (G.2 0, 482, .inl y_764))] H := hP
                      have hD := z_tie hP hD rfl
                      refine lv_aload_n hx hb d_Model_layStates_216 rfl (lv_at hl 4 rfl) ?_
                      refine va_get (D := G.1) (ci := 12) (v := .ref b24) (C := R_Model) (T := F_Model) (N := 54) hx hb hts i_Model hown hK hP 8 rfl rfl 21 (by decide) (hts _ q1130) (fun _ h9 => h9) rfl d_Model_layStates_217 ?_
                      refine lv_iload_n hx hb d_Model_layStates_220 rfl (lv_at hl 5 rfl) ?_
                      refine lv_dup2_11 hx hb d_Model_layStates_221 rfl rfl ?_
                      refine va_iald hx hb hK hP 3 0 rfl rfl (i := 1) (z_in rfl) d_Model_layStates_222 ?_
                      refine lv_topi (fun v_1108 ev_1108 => ?_)
                      obtain rfl : v_1049 = v_1108 := ev_1049.trans ev_1108.symm
                      refine lv_iconst (v := 1) hx hb d_Model_layStates_223 (by decide) ?_
                      refine lv_iadd hx hb d_Model_layStates_224 ?_
                      refine lv_topi (fun v_1109 ev_1109 => ?_)
                      obtain ⟨qv_1109, hv_1109⟩ := zI_add (l := 2) (h := 241) hv_1081 zc_1 ev_1109 (by decide)
                      rw [li_1] at qv_1109
                      refine va_iast hx hb hK hP hD hS 3 0 rfl rfl (i := 1) (z_in rfl) d_Model_layStates_225 (fun H locs hP hD hS => ?_)
                      obtain ⟨f_1110, hf_1110, gf_1110, uf_1110, hP, hD⟩ := z_newfu 3 hP hD rfl hy_960 (zI.wk (l' := 0) (h' := 241) hv_1109 (by decide))
                      have hP : va_P G.1 classes [(b18, .inl (G.2 0, 2, .inl b58)), (b20, .inl (G.2 0, 520, .inl b59)), (b23, .inl (G.2 0, 482, .inl y_959)), (b24, .inl (G.2 0, 2, .inl f_1110)), (b25, .inl (G.2 0, 482, .inl f_1103)), (b26, .inl (G.2 0, 482, .inl f_1105)), (b27, .inl (G.2 0, 482, .inl f_1107)), (b4, .inl (G.2 0, 503, .inl b57)), (b0, .inr (12, [.int b3, .ref b4, .ref b5, .ref b6, .ref b7, .int b8, .ref b9, .int b10, .int b11, .int b12, .int b13, .ref b14, .ref b15, .ref b16, .int b17, .ref b18, .ref b19, .ref b20, .ref b21, .ref b22, .ref b23, .ref b24, .ref b25, .ref b26, .ref b27, .ref b28, .ref b29, .int b30, .ref b31, .ref b32, .int b33, .int b34, .int b35, .int b36, .ref b37, .ref b38, .ref b39, .ref b40, .ref b41, .ref b42, .ref b43, .int b44, .ref b45, .ref b46, .int b47, .ref b48, .ref b49, .ref b50, .ref b51, .ref b52, .int b53, .ref b54, .ref b55, .ref b56])), (b21, .inl (G.2 0, 9640, .inl y_763)), (b22, .inl (G.2 0, 482, .inl y_764))] H := hP
                      have hD := z_tie hP hD rfl
                      refine lv_aload_n hx hb d_Model_layStates_226 rfl (lv_at hl 4 rfl) ?_
                      refine va_get (D := G.1) (ci := 12) (v := .ref b26) (C := R_Model) (T := F_Model) (N := 54) hx hb hts i_Model hown hK hP 8 rfl rfl 23 (by decide) (hts _ q1132) (fun _ h9 => h9) rfl d_Model_layStates_227 ?_
                      refine lv_iload hx hb d_Model_layStates_230 (lv_at hl 3 rfl) ?_
                      refine lv_iload hx hb d_Model_layStates_232 (lv_at hl 0 rfl) ?_
                      refine lv_iadd hx hb d_Model_layStates_234 ?_
                      refine lv_topi (fun v_1111 ev_1111 => ?_)
                      obtain rfl : v_1082 = v_1111 := ev_1082.trans ev_1111.symm
                      refine lv_dup2_11 hx hb d_Model_layStates_235 rfl rfl ?_
                      refine va_iald hx hb hK hP 5 0 rfl rfl (zI.inn hv_1082 (by decide)) d_Model_layStates_236 ?_
                      refine lv_topi (fun v_1112 ev_1112 => ?_)
                      obtain rfl : v_1112 = 0 := ev_1112.trans gf_1105
                      refine lv_iconst (v := 1) hx hb d_Model_layStates_237 (by decide) ?_
                      refine lv_iadd hx hb d_Model_layStates_238 ?_
                      refine z_topi (y := 1) (by decide +kernel) ?_
                      refine va_iast hx hb hK hP hD hS 5 0 rfl rfl (zI.inn hv_1082 (by decide)) d_Model_layStates_239 (fun H locs hP hD hS => ?_)
                      obtain ⟨f_1113, gf_1113, uf_1113, hP, hD⟩ := z_newFu 5 hP hD rfl
                      have hP : va_P G.1 classes [(b18, .inl (G.2 0, 2, .inl b58)), (b20, .inl (G.2 0, 520, .inl b59)), (b23, .inl (G.2 0, 482, .inl y_959)), (b24, .inl (G.2 0, 2, .inl f_1110)), (b25, .inl (G.2 0, 482, .inl f_1103)), (b26, .inl (G.2 0, 482, .inl f_1113)), (b27, .inl (G.2 0, 482, .inl f_1107)), (b4, .inl (G.2 0, 503, .inl b57)), (b0, .inr (12, [.int b3, .ref b4, .ref b5, .ref b6, .ref b7, .int b8, .ref b9, .int b10, .int b11, .int b12, .int b13, .ref b14, .ref b15, .ref b16, .int b17, .ref b18, .ref b19, .ref b20, .ref b21, .ref b22, .ref b23, .ref b24, .ref b25, .ref b26, .ref b27, .ref b28, .ref b29, .int b30, .ref b31, .ref b32, .int b33, .int b34, .int b35, .int b36, .ref b37, .ref b38, .ref b39, .ref b40, .ref b41, .ref b42, .ref b43, .int b44, .ref b45, .ref b46, .int b47, .ref b48, .ref b49, .ref b50, .ref b51, .ref b52, .int b53, .ref b54, .ref b55, .ref b56])), (b21, .inl (G.2 0, 9640, .inl y_763)), (b22, .inl (G.2 0, 482, .inl y_764))] H := hP
                      have hD := z_tie hP hD rfl
                      refine lv_aload_n hx hb d_Model_layStates_240 rfl (lv_at hl 4 rfl) ?_
                      refine va_get (D := G.1) (ci := 12) (v := .ref b23) (C := R_Model) (T := F_Model) (N := 54) hx hb hts i_Model hown hK hP 8 rfl rfl 20 (by decide) (hts _ q1129) (fun _ h9 => h9) rfl d_Model_layStates_241 ?_
                      refine lv_iload hx hb d_Model_layStates_244 (lv_at hl 3 rfl) ?_
                      refine lv_iload hx hb d_Model_layStates_246 (lv_at hl 1 rfl) ?_
                      refine lv_iadd hx hb d_Model_layStates_248 ?_
                      refine lv_topi (fun v_1114 ev_1114 => ?_)
                      obtain rfl : v_1085 = v_1114 := ev_1085.trans ev_1114.symm
                      refine lv_iload hx hb d_Model_layStates_249 (lv_at hl 0 rfl) ?_
                      refine va_iast hx hb hK hP hD hS 2 0 rfl rfl (zI.inn hv_1085 (by decide)) d_Model_layStates_251 (fun H locs hP hD hS => ?_)
                      obtain ⟨f_1115, hf_1115, gf_1115, uf_1115, hP, hD⟩ := z_newfu 2 hP hD rfl hy_959 (zI.wk (l' := 0) (h' := 240) hv_1080 (by decide))
                      have hP : va_P G.1 classes [(b18, .inl (G.2 0, 2, .inl b58)), (b20, .inl (G.2 0, 520, .inl b59)), (b23, .inl (G.2 0, 482, .inl f_1115)), (b24, .inl (G.2 0, 2, .inl f_1110)), (b25, .inl (G.2 0, 482, .inl f_1103)), (b26, .inl (G.2 0, 482, .inl f_1113)), (b27, .inl (G.2 0, 482, .inl f_1107)), (b4, .inl (G.2 0, 503, .inl b57)), (b0, .inr (12, [.int b3, .ref b4, .ref b5, .ref b6, .ref b7, .int b8, .ref b9, .int b10, .int b11, .int b12, .int b13, .ref b14, .ref b15, .ref b16, .int b17, .ref b18, .ref b19, .ref b20, .ref b21, .ref b22, .ref b23, .ref b24, .ref b25, .ref b26, .ref b27, .ref b28, .ref b29, .int b30, .ref b31, .ref b32, .int b33, .int b34, .int b35, .int b36, .ref b37, .ref b38, .ref b39, .ref b40, .ref b41, .ref b42, .ref b43, .int b44, .ref b45, .ref b46, .int b47, .ref b48, .ref b49, .ref b50, .ref b51, .ref b52, .int b53, .ref b54, .ref b55, .ref b56])), (b21, .inl (G.2 0, 9640, .inl y_763)), (b22, .inl (G.2 0, 482, .inl y_764))] H := hP
                      have hD := z_tie hP hD rfl
                      obtain ⟨v_1116, ev_1116⟩ : ∃ z : Int32, z = y_958 + 1 := ⟨_, rfl⟩
                      obtain ⟨qv_1116, hv_1116⟩ := zI_add (l := 1) (h := 241) hv_972 zc_1 ev_1116 (by decide)
                      rw [li_1] at qv_1116
                      refine lv_iinc (v := v_1116) (lv' := [(6, .int v_1116), (7, .int y_1047), (5, .int 1), (4, .int 241), (0, .ref b0), (1, .int 1), (2, .int b1), (3, .int b2)]) hx hb d_Model_layStates_252 hl (k := 1) rfl (by rw [ev_1116]; rfl) (by decide) rfl (fun ls hl => ?_)
                      refine lv_goto (tgt := 110) hx hb d_Model_layStates_255 (by decide) ?_
                      exact ihk_957 (v_1116) (f_1115) (f_1110) (f_1103) (f_1113) (f_1107) _ _ _ (zI.wk (l' := 0) (h' := 241) hv_1116 (by decide)) hf_1115 hf_1110 hf_1103 (by rw [gf_1110]; omega) trivial trivial trivial (zm_up qv_1116 hmk_957 (by decide)) (hP.sub [0, 1, 9, 10, 2, 3, 4, 5, 6, 8, 7] rfl) (hD.sub [0, 1, 9, 10, 2, 3, 4, 5, 6, 8, 7] (by decide) rfl) hS (lv_sub hl [0, 2, 3, 4, 5, 6, 7] rfl)
                  · have _nhc_1088 := hc_1088
                    have ni_1117 := (fa_eq _ _).mp hc_1088
                    rw [li_0] at ni_1117
                    have hv_1118 : zI x_1087 0 0 := zI.eq_l hx_1087 zc_0 hc_1088
                    obtain ⟨v_1119, ev_1119⟩ : ∃ z : Int32, z = y_1047 + 1 := ⟨_, rfl⟩
                    obtain ⟨qv_1119, hv_1119⟩ := zI_add (l := 1) (h := 240) hv_1080 zc_1 ev_1119 (by decide)
                    rw [li_1] at qv_1119
                    refine lv_iinc (v := v_1119) (lv' := [(7, .int v_1119), (6, .int y_958), (5, .int 1), (4, .int 241), (0, .ref b0), (1, .int 1), (2, .int b1), (3, .int b2)]) hx hb d_Model_layStates_165 hl (k := 0) rfl (by rw [ev_1119]; rfl) (by decide) rfl (fun ls hl => ?_)
                    refine lv_goto (tgt := 129) hx hb d_Model_layStates_168 (by decide) ?_
                    exact ihk_1046 (v_1119) _ _ _ (zI.wk (l' := 0) (h' := 240) hv_1119 (by decide)) (by rw [← ev_1049]; omega) (zm_up qv_1119 hmk_1046 (by decide)) (hP.sub [0, 1, 9, 10, 2, 3, 4, 5, 6, 8, 7] rfl) (hD.sub [0, 1, 9, 10, 2, 3, 4, 5, 6, 8, 7] (by decide) rfl) hS (lv_sub hl [0, 1, 2, 3, 4, 5, 6, 7] rfl)
      · have _nhc_775 := hc_775
        have ni_1120 := (fa_eq _ _).mp hc_775
        rw [li_m1] at ni_1120
        have hv_1121 : zI b2 (-1) (-1) := zI.eq_l hb2 zc_m1 hc_775
        refine lv_iconst (v := 0) hx hb d_Model_layStates_92 (by decide) ?_
        refine lv_goto (tgt := 97) hx hb d_Model_layStates_93 (by decide) ?_
        refine lv_icmp_le (tgt := 104) hx hb d_Model_layStates_97 (by decide) (fun hc_1122 => ?_) (fun hc_1122 => ?_)
        · have _nhc_1122 := hc_1122
          have ni_1123 := (fa_le _ _).mp hc_1122
          rw [li_0] at ni_1123
          have hv_1124 : zI x_773 0 0 := zI.le_l hx_773 zc_0 hc_1122 (by decide)
          refine lv_iconst (v := 0) hx hb d_Model_layStates_104 (by decide) ?_
          refine lv_istore (lv' := [(5, .int 0), (4, .int 241), (0, .ref b0), (1, .int 1), (2, .int b1), (3, .int b2)]) hx hb d_Model_layStates_105 hl (by decide) rfl (fun ls hl => ?_)
          refine lv_iconst (v := 0) hx hb d_Model_layStates_107 (by decide) ?_
          refine lv_istore (lv' := [(6, .int 0), (5, .int 0), (4, .int 241), (0, .ref b0), (1, .int 1), (2, .int b1), (3, .int b2)]) hx hb d_Model_layStates_108 hl (by decide) rfl (fun ls hl => ?_)
          refine lv_iload hx hb d_Model_layStates_110 (lv_at hl 0 rfl) ?_
          refine lv_aload_n hx hb d_Model_layStates_112 rfl (lv_at hl 3 rfl) ?_
          refine va_get (D := G.1) (ci := 12) (v := .ref b18) (C := R_Model) (T := F_Model) (N := 54) hx hb hts i_Model hown hK hP 9 rfl rfl 15 (by decide) (hts _ q1124) (fun _ h9 => h9) rfl d_Model_layStates_113 ?_
          refine lv_iload_n hx hb d_Model_layStates_116 rfl (lv_at hl 4 rfl) ?_
          refine va_iald hx hb hK hP 0 0 rfl rfl (i := 1) (z_in rfl) d_Model_layStates_117 ?_
          refine lv_topi (fun v_1137 ev_1137 => ?_)
          have hv_1137 : zI v_1137 0 241 := (hb58 _).eq ev_1137
          refine lv_icmp_ge (tgt := 258) hx hb d_Model_layStates_118 (by decide) (fun hc_1138 => ?_) (fun hc_1138 => ?_)
          · have _nhc_1138 := hc_1138
            have ni_1139 := (fa_le _ _).mp hc_1138
            rw [li_0] at ni_1139
            have hv_1140 : zI v_1137 0 0 := zI.le_l hv_1137 zc_0 hc_1138 (by decide)
            exact z_vret hx hb hr hlocks (hP.sub [9, 10, 0, 1, 2, 3, 4, 5, 6, 7, 8] rfl) (hD.sub [9, 10, 0, 1, 2, 3, 4, 5, 6, 7, 8] (by decide) rfl) hS (Nat.le_of_ble_eq_true rfl) (Nat.le_of_ble_eq_true rfl) d_Model_layStates_258 ⟨y_763, y_764, b62, f_771, b64, b65, b66, rfl, rfl, hy_764, hb62, hf_771, hb64⟩
          · have _nhc_1138 := hc_1138
            have ni_1141 := (fa_lt _ _).mp (zi_nle hc_1138)
            rw [li_0] at ni_1141
            have hv_1142 : zI v_1137 1 241 := zI.lt_r zc_0 hv_1137 (zi_nle hc_1138) (by decide)
            refine lv_iload hx hb d_Model_layStates_121 (lv_at hl 1 rfl) ?_
            refine lv_if_eq (tgt := 258) hx hb d_Model_layStates_123 (by decide) (fun _ => ?_) (fun hc => absurd hc (by decide +kernel))
            exact z_vret hx hb hr hlocks (hP.sub [9, 10, 0, 1, 2, 3, 4, 5, 6, 7, 8] rfl) (hD.sub [9, 10, 0, 1, 2, 3, 4, 5, 6, 7, 8] (by decide) rfl) hS (Nat.le_of_ble_eq_true rfl) (Nat.le_of_ble_eq_true rfl) d_Model_layStates_258 ⟨y_763, y_764, b62, f_771, b64, b65, b66, rfl, rfl, hy_764, hb62, hf_771, hb64⟩
        · have _nhc_1122 := hc_1122
          have ni_1143 := (fa_lt _ _).mp (zi_nle hc_1122)
          rw [li_0] at ni_1143
          have hv_1144 : zI x_773 1 20 := zI.lt_r zc_0 hx_773 (zi_nle hc_1122) (by decide)
          refine lv_iconst (v := 1) hx hb d_Model_layStates_100 (by decide) ?_
          refine lv_goto (tgt := 105) hx hb d_Model_layStates_101 (by decide) ?_
          refine lv_istore (lv' := [(5, .int 1), (4, .int 241), (0, .ref b0), (1, .int 1), (2, .int b1), (3, .int b2)]) hx hb d_Model_layStates_105 hl (by decide) rfl (fun ls hl => ?_)
          refine lv_iconst (v := 0) hx hb d_Model_layStates_107 (by decide) ?_
          refine lv_istore (lv' := [(6, .int 0), (5, .int 1), (4, .int 241), (0, .ref b0), (1, .int 1), (2, .int b1), (3, .int b2)]) hx hb d_Model_layStates_108 hl (by decide) rfl (fun ls hl => ?_)
          suffices key : ∀ (k_1301 : Nat) (y_1302 : Int32) (y_1303 : Nat → Int32) (y_1304 : Nat → Int32) (y_1305 : Nat → Int32) (y_1306 : Nat → Int32) (y_1307 : Nat → Int32) (H : Heap) (locs : List Loc) (ls : Array Slot), (zI y_1302 0 241) → (zR y_1303 0 240) → (zR y_1304 0 241) → (zR y_1305 0 240) → ((y_1304 (1 : Int32).toNatClampNeg).toInt ≤ (y_1302 : Int32).toInt) → (True) → (True) → (True) → (241 : Int) - y_1302.toInt < (k_1301 : Int) → va_P G.1 classes [(b18, .inl (G.2 0, 2, .inl b58)), (b20, .inl (G.2 0, 520, .inl b59)), (b21, .inl (G.2 0, 9640, .inl y_763)), (b22, .inl (G.2 0, 482, .inl y_764)), (b23, .inl (G.2 0, 482, .inl y_1303)), (b24, .inl (G.2 0, 2, .inl y_1304)), (b25, .inl (G.2 0, 482, .inl y_1305)), (b26, .inl (G.2 0, 482, .inl y_1306)), (b27, .inl (G.2 0, 482, .inl y_1307)), (b0, .inr (12, [.int b3, .ref b4, .ref b5, .ref b6, .ref b7, .int b8, .ref b9, .int b10, .int b11, .int b12, .int b13, .ref b14, .ref b15, .ref b16, .int b17, .ref b18, .ref b19, .ref b20, .ref b21, .ref b22, .ref b23, .ref b24, .ref b25, .ref b26, .ref b27, .ref b28, .ref b29, .int b30, .ref b31, .ref b32, .int b33, .int b34, .int b35, .int b36, .ref b37, .ref b38, .ref b39, .ref b40, .ref b41, .ref b42, .ref b43, .int b44, .ref b45, .ref b46, .int b47, .ref b48, .ref b49, .ref b50, .ref b51, .ref b52, .int b53, .ref b54, .ref b55, .ref b56])), (b4, .inl (G.2 0, 503, .inl b57))] H → va_D A [(b18, .inl (G.2 0, 2, .inl b58)), (b20, .inl (G.2 0, 520, .inl b59)), (b21, .inl (G.2 0, 9640, .inl y_763)), (b22, .inl (G.2 0, 482, .inl y_764)), (b23, .inl (G.2 0, 482, .inl y_1303)), (b24, .inl (G.2 0, 2, .inl y_1304)), (b25, .inl (G.2 0, 482, .inl y_1305)), (b26, .inl (G.2 0, 482, .inl y_1306)), (b27, .inl (G.2 0, 482, .inl y_1307)), (b0, .inr (12, [.int b3, .ref b4, .ref b5, .ref b6, .ref b7, .int b8, .ref b9, .int b10, .int b11, .int b12, .int b13, .ref b14, .ref b15, .ref b16, .int b17, .ref b18, .ref b19, .ref b20, .ref b21, .ref b22, .ref b23, .ref b24, .ref b25, .ref b26, .ref b27, .ref b28, .ref b29, .int b30, .ref b31, .ref b32, .int b33, .int b34, .int b35, .int b36, .ref b37, .ref b38, .ref b39, .ref b40, .ref b41, .ref b42, .ref b43, .int b44, .ref b45, .ref b46, .int b47, .ref b48, .ref b49, .ref b50, .ref b51, .ref b52, .int b53, .ref b54, .ref b55, .ref b56])), (b4, .inl (G.2 0, 503, .inl b57))] → va_S A s.heap H locs → lv_has ls 8 [(6, .int y_1302), (5, .int 1), (4, .int 241), (0, .ref b0), (1, .int 1), (2, .int b1), (3, .int b2)] → W p l e m_s2_Model_layStates s m ([.ref b0, .int 1, .int b1, .int b2] : List Value).toArray below meth c H locs 0 0 (MQ below (zQ G (fun v w => ∃ (e0 : Nat → Int32), ∃ (e1 : Nat → Int32), ∃ (e2 : Nat → Int32), ∃ (e3 : Nat → Int32), ∃ (e4 : Nat → Int32), ∃ (e5 : Nat → Int32), ∃ (e6 : Nat → Int32), v = none ∧ w = [(b0, .inr (12, [.int b3, .ref b4, .ref b5, .ref b6, .ref b7, .int b8, .ref b9, .int b10, .int b11, .int b12, .int b13, .ref b14, .ref b15, .ref b16, .int b17, .ref b18, .ref b19, .ref b20, .ref b21, .ref b22, .ref b23, .ref b24, .ref b25, .ref b26, .ref b27, .ref b28, .ref b29, .int b30, .ref b31, .ref b32, .int b33, .int b34, .int b35, .int b36, .ref b37, .ref b38, .ref b39, .ref b40, .ref b41, .ref b42, .ref b43, .int b44, .ref b45, .ref b46, .int b47, .ref b48, .ref b49, .ref b50, .ref b51, .ref b52, .int b53, .ref b54, .ref b55, .ref b56])), (b4, .inl (G.2 0, 503, .inl b57)), (b18, .inl (G.2 0, 2, .inl b58)), (b20, .inl (G.2 0, 520, .inl b59)), (b21, .inl (G.2 0, 9640, .inl e0)), (b22, .inl (G.2 0, 482, .inl e1)), (b23, .inl (G.2 0, 482, .inl e2)), (b24, .inl (G.2 0, 2, .inl e3)), (b25, .inl (G.2 0, 482, .inl e4)), (b26, .inl (G.2 0, 482, .inl e5)), (b27, .inl (G.2 0, 482, .inl e6))] ∧ (zqa qC e1) ∧ (zR e2 0 240) ∧ (zR e3 0 241) ∧ (zR e4 0 240)) A) ([.ref b0, .int 1, .int b1, .int b2] : List Value).toArray s m_s2_Model_layStates.cells m_s2_Model_layStates.slots A) (F0 m 110 ls []) by
            exact key 242 (0) (b62) (f_771) (b64) (b65) (b66) _ _ _ (zI.wk (l' := 0) (h' := 241) zc_0 (by decide)) hb62 hf_771 hb64 (by rw [gf_771]; have _l0 := li_0; omega) trivial trivial trivial (zm_upi (zI.wk (l' := 0) (h' := 241) zc_0 (by decide)) (by decide)) hP hD hS (lv_sub hl [0, 1, 2, 3, 4, 5, 6] rfl)
          intro k_1301
          induction k_1301 with
          | zero =>
            intro y_1302 y_1303 y_1304 y_1305 y_1306 y_1307 H locs ls hy_1302 hy_1303 hy_1304 hy_1305 hli_1308 hli_1309 hli_1310 hli_1311 hmk_1301 hP hD hS hl
            exact (zm_up0 hy_1302 hmk_1301).elim
          | succ k_1301 ihk_1301 =>
            intro y_1302 y_1303 y_1304 y_1305 y_1306 y_1307 H locs ls hy_1302 hy_1303 hy_1304 hy_1305 hli_1308 hli_1309 hli_1310 hli_1311 hmk_1301 hP hD hS hl
            refine lv_iload hx hb d_Model_layStates_110 (lv_at hl 0 rfl) ?_
            refine lv_aload_n hx hb d_Model_layStates_112 rfl (lv_at hl 3 rfl) ?_
            refine va_get (D := G.1) (ci := 12) (v := .ref b18) (C := R_Model) (T := F_Model) (N := 54) hx hb hts i_Model hown hK hP 9 rfl rfl 15 (by decide) (hts _ q1124) (fun _ h9 => h9) rfl d_Model_layStates_113 ?_
            refine lv_iload_n hx hb d_Model_layStates_116 rfl (lv_at hl 4 rfl) ?_
            refine va_iald hx hb hK hP 0 0 rfl rfl (i := 1) (z_in rfl) d_Model_layStates_117 ?_
            refine lv_topi (fun v_1312 ev_1312 => ?_)
            have hv_1312 : zI v_1312 0 241 := (hb58 _).eq ev_1312
            refine lv_icmp_ge (tgt := 258) hx hb d_Model_layStates_118 (by decide) (fun hc_1313 => ?_) (fun hc_1313 => ?_)
            · have _nhc_1313 := hc_1313
              have ni_1314 := (fa_le _ _).mp hc_1313
              exact z_vret hx hb hr hlocks (hP.sub [9, 10, 0, 1, 2, 3, 4, 5, 6, 7, 8] rfl) (hD.sub [9, 10, 0, 1, 2, 3, 4, 5, 6, 7, 8] (by decide) rfl) hS (Nat.le_of_ble_eq_true rfl) (Nat.le_of_ble_eq_true rfl) d_Model_layStates_258 ⟨y_763, y_764, y_1303, y_1304, y_1305, y_1306, y_1307, rfl, rfl, hy_764, hy_1303, hy_1304, hy_1305⟩
            · have _nhc_1313 := hc_1313
              have ni_1315 := (fa_lt _ _).mp (zi_nle hc_1313)
              have hv_1316 : zI y_1302 0 240 := zI.lt_l hy_1302 hv_1312 (zi_nle hc_1313) (by decide)
              have hv_1317 : zI v_1312 1 241 := zI.lt_r hy_1302 hv_1312 (zi_nle hc_1313) (by decide)
              refine lv_iload hx hb d_Model_layStates_121 (lv_at hl 1 rfl) ?_
              refine lv_if_eq (tgt := 258) hx hb d_Model_layStates_123 (by decide) (fun hc => absurd hc (by decide +kernel)) (fun _ => ?_)
              refine lv_iconst (v := 0) hx hb d_Model_layStates_126 (by decide) ?_
              refine lv_istore (lv' := [(7, .int 0), (6, .int y_1302), (5, .int 1), (4, .int 241), (0, .ref b0), (1, .int 1), (2, .int b1), (3, .int b2)]) hx hb d_Model_layStates_127 hl (by decide) rfl (fun ls hl => ?_)
              suffices key : ∀ (k_1390 : Nat) (y_1391 : Int32) (H : Heap) (locs : List Loc) (ls : Array Slot), (zI y_1391 0 240) → ((y_1391 : Int32).toInt ≤ (y_1304 (1 : Int32).toNatClampNeg).toInt) → (240 : Int) - y_1391.toInt < (k_1390 : Int) → va_P G.1 classes [(b18, .inl (G.2 0, 2, .inl b58)), (b20, .inl (G.2 0, 520, .inl b59)), (b21, .inl (G.2 0, 9640, .inl y_763)), (b22, .inl (G.2 0, 482, .inl y_764)), (b23, .inl (G.2 0, 482, .inl y_1303)), (b24, .inl (G.2 0, 2, .inl y_1304)), (b25, .inl (G.2 0, 482, .inl y_1305)), (b26, .inl (G.2 0, 482, .inl y_1306)), (b27, .inl (G.2 0, 482, .inl y_1307)), (b0, .inr (12, [.int b3, .ref b4, .ref b5, .ref b6, .ref b7, .int b8, .ref b9, .int b10, .int b11, .int b12, .int b13, .ref b14, .ref b15, .ref b16, .int b17, .ref b18, .ref b19, .ref b20, .ref b21, .ref b22, .ref b23, .ref b24, .ref b25, .ref b26, .ref b27, .ref b28, .ref b29, .int b30, .ref b31, .ref b32, .int b33, .int b34, .int b35, .int b36, .ref b37, .ref b38, .ref b39, .ref b40, .ref b41, .ref b42, .ref b43, .int b44, .ref b45, .ref b46, .int b47, .ref b48, .ref b49, .ref b50, .ref b51, .ref b52, .int b53, .ref b54, .ref b55, .ref b56])), (b4, .inl (G.2 0, 503, .inl b57))] H → va_D A [(b18, .inl (G.2 0, 2, .inl b58)), (b20, .inl (G.2 0, 520, .inl b59)), (b21, .inl (G.2 0, 9640, .inl y_763)), (b22, .inl (G.2 0, 482, .inl y_764)), (b23, .inl (G.2 0, 482, .inl y_1303)), (b24, .inl (G.2 0, 2, .inl y_1304)), (b25, .inl (G.2 0, 482, .inl y_1305)), (b26, .inl (G.2 0, 482, .inl y_1306)), (b27, .inl (G.2 0, 482, .inl y_1307)), (b0, .inr (12, [.int b3, .ref b4, .ref b5, .ref b6, .ref b7, .int b8, .ref b9, .int b10, .int b11, .int b12, .int b13, .ref b14, .ref b15, .ref b16, .int b17, .ref b18, .ref b19, .ref b20, .ref b21, .ref b22, .ref b23, .ref b24, .ref b25, .ref b26, .ref b27, .ref b28, .ref b29, .int b30, .ref b31, .ref b32, .int b33, .int b34, .int b35, .int b36, .ref b37, .ref b38, .ref b39, .ref b40, .ref b41, .ref b42, .ref b43, .int b44, .ref b45, .ref b46, .int b47, .ref b48, .ref b49, .ref b50, .ref b51, .ref b52, .int b53, .ref b54, .ref b55, .ref b56])), (b4, .inl (G.2 0, 503, .inl b57))] → va_S A s.heap H locs → lv_has ls 8 [(7, .int y_1391), (6, .int y_1302), (5, .int 1), (4, .int 241), (0, .ref b0), (1, .int 1), (2, .int b1), (3, .int b2)] → W p l e m_s2_Model_layStates s m ([.ref b0, .int 1, .int b1, .int b2] : List Value).toArray below meth c H locs 0 0 (MQ below (zQ G (fun v w => ∃ (e0 : Nat → Int32), ∃ (e1 : Nat → Int32), ∃ (e2 : Nat → Int32), ∃ (e3 : Nat → Int32), ∃ (e4 : Nat → Int32), ∃ (e5 : Nat → Int32), ∃ (e6 : Nat → Int32), v = none ∧ w = [(b0, .inr (12, [.int b3, .ref b4, .ref b5, .ref b6, .ref b7, .int b8, .ref b9, .int b10, .int b11, .int b12, .int b13, .ref b14, .ref b15, .ref b16, .int b17, .ref b18, .ref b19, .ref b20, .ref b21, .ref b22, .ref b23, .ref b24, .ref b25, .ref b26, .ref b27, .ref b28, .ref b29, .int b30, .ref b31, .ref b32, .int b33, .int b34, .int b35, .int b36, .ref b37, .ref b38, .ref b39, .ref b40, .ref b41, .ref b42, .ref b43, .int b44, .ref b45, .ref b46, .int b47, .ref b48, .ref b49, .ref b50, .ref b51, .ref b52, .int b53, .ref b54, .ref b55, .ref b56])), (b4, .inl (G.2 0, 503, .inl b57)), (b18, .inl (G.2 0, 2, .inl b58)), (b20, .inl (G.2 0, 520, .inl b59)), (b21, .inl (G.2 0, 9640, .inl e0)), (b22, .inl (G.2 0, 482, .inl e1)), (b23, .inl (G.2 0, 482, .inl e2)), (b24, .inl (G.2 0, 2, .inl e3)), (b25, .inl (G.2 0, 482, .inl e4)), (b26, .inl (G.2 0, 482, .inl e5)), (b27, .inl (G.2 0, 482, .inl e6))] ∧ (zqa qC e1) ∧ (zR e2 0 240) ∧ (zR e3 0 241) ∧ (zR e4 0 240)) A) ([.ref b0, .int 1, .int b1, .int b2] : List Value).toArray s m_s2_Model_layStates.cells m_s2_Model_layStates.slots A) (F0 m 129 ls []) by
                exact key 241 (0) _ _ _ (zI.wk (l' := 0) (h' := 240) zc_0 (by decide)) (by have _l0 := li_0; have h9 := hy_1304 (1 : Int32).toNatClampNeg; omega) (zm_upi (zI.wk (l' := 0) (h' := 240) zc_0 (by decide)) (by decide)) hP hD hS (lv_sub hl [0, 1, 2, 3, 4, 5, 6, 7] rfl)
              intro k_1390
              induction k_1390 with
              | zero =>
                intro y_1391 H locs ls hy_1391 hli_1392 hmk_1390 hP hD hS hl
                exact (zm_up0 hy_1391 hmk_1390).elim
              | succ k_1390 ihk_1390 =>
                intro y_1391 H locs ls hy_1391 hli_1392 hmk_1390 hP hD hS hl
                refine lv_iload hx hb d_Model_layStates_129 (lv_at hl 0 rfl) ?_
                refine lv_aload_n hx hb d_Model_layStates_131 rfl (lv_at hl 4 rfl) ?_
                refine va_get (D := G.1) (ci := 12) (v := .ref b24) (C := R_Model) (T := F_Model) (N := 54) hx hb hts i_Model hown hK hP 9 rfl rfl 21 (by decide) (hts _ q1130) (fun _ h9 => h9) rfl d_Model_layStates_132 ?_
                refine lv_iload_n hx hb d_Model_layStates_135 rfl (lv_at hl 5 rfl) ?_
                refine va_iald hx hb hK hP 5 0 rfl rfl (i := 1) (z_in rfl) d_Model_layStates_136 ?_
                refine lv_topi (fun v_1393 ev_1393 => ?_)
                have hv_1393 : zI v_1393 0 241 := (hy_1304 _).eq ev_1393
                have hv_1394 : zI v_1393 0 240 := ⟨hv_1393.1, by rw [ev_1393]; omega⟩
                have hsmv_1393 : v_1393.toInt ≤ y_1302.toInt := by rw [ev_1393]; omega
                refine lv_icmp_ge (tgt := 171) hx hb d_Model_layStates_137 (by decide) (fun hc_1395 => ?_) (fun hc_1395 => ?_)
                · have _nhc_1395 := hc_1395
                  have ni_1396 := (fa_le _ _).mp hc_1395
                  refine lv_iload hx hb d_Model_layStates_171 (lv_at hl 0 rfl) ?_
                  refine lv_aload_n hx hb d_Model_layStates_173 rfl (lv_at hl 4 rfl) ?_
                  refine va_get (D := G.1) (ci := 12) (v := .ref b24) (C := R_Model) (T := F_Model) (N := 54) hx hb hts i_Model hown hK hP 9 rfl rfl 21 (by decide) (hts _ q1130) (fun _ h9 => h9) rfl d_Model_layStates_174 ?_
                  refine lv_iload_n hx hb d_Model_layStates_177 rfl (lv_at hl 5 rfl) ?_
                  refine va_iald hx hb hK hP 5 0 rfl rfl (i := 1) (z_in rfl) d_Model_layStates_178 ?_
                  refine lv_topi (fun v_1397 ev_1397 => ?_)
                  obtain rfl : v_1393 = v_1397 := ev_1393.trans ev_1397.symm
                  refine lv_icmp_ne (tgt := 226) hx hb d_Model_layStates_179 (by decide) (fun hc_1398 => ?_) (fun hc_1398 => ?_)
                  · have _nhc_1398 := hc_1398
                    have ni_1399 : ¬ (y_1391 : Int32).toInt = (v_1393 : Int32).toInt := fun z => hc_1398 ((fa_eq _ _).mpr z)
                    refine lv_aload_n hx hb d_Model_layStates_226 rfl (lv_at hl 4 rfl) ?_
                    refine va_get (D := G.1) (ci := 12) (v := .ref b26) (C := R_Model) (T := F_Model) (N := 54) hx hb hts i_Model hown hK hP 9 rfl rfl 23 (by decide) (hts _ q1132) (fun _ h9 => h9) rfl d_Model_layStates_227 ?_
                    refine lv_iload hx hb d_Model_layStates_230 (lv_at hl 3 rfl) ?_
                    refine lv_iload hx hb d_Model_layStates_232 (lv_at hl 0 rfl) ?_
                    refine lv_iadd hx hb d_Model_layStates_234 ?_
                    refine lv_topi (fun v_1400 ev_1400 => ?_)
                    obtain ⟨qv_1400, hv_1400⟩ := zI_add (l := 241) (h := 481) zc_241 hy_1391 ev_1400 (by decide)
                    rw [li_241] at qv_1400
                    refine lv_dup2_11 hx hb d_Model_layStates_235 rfl rfl ?_
                    refine va_iald hx hb hK hP 7 0 rfl rfl (zI.inn hv_1400 (by decide)) d_Model_layStates_236 ?_
                    refine lv_topi (fun v_1401 ev_1401 => ?_)
                    refine lv_iconst (v := 1) hx hb d_Model_layStates_237 (by decide) ?_
                    refine lv_iadd hx hb d_Model_layStates_238 ?_
                    refine lv_topi (fun v_1402 ev_1402 => ?_)
                    refine va_iast hx hb hK hP hD hS 7 0 rfl rfl (zI.inn hv_1400 (by decide)) d_Model_layStates_239 (fun H locs hP hD hS => ?_)
                    obtain ⟨f_1403, gf_1403, uf_1403, hP, hD⟩ := z_newFu 7 hP hD rfl
                    have hP : va_P G.1 classes [(b18, .inl (G.2 0, 2, .inl b58)), (b20, .inl (G.2 0, 520, .inl b59)), (b21, .inl (G.2 0, 9640, .inl y_763)), (b22, .inl (G.2 0, 482, .inl y_764)), (b23, .inl (G.2 0, 482, .inl y_1303)), (b24, .inl (G.2 0, 2, .inl y_1304)), (b25, .inl (G.2 0, 482, .inl y_1305)), (b26, .inl (G.2 0, 482, .inl f_1403)), (b27, .inl (G.2 0, 482, .inl y_1307)), (b0, .inr (12, [.int b3, .ref b4, .ref b5, .ref b6, .ref b7, .int b8, .ref b9, .int b10, .int b11, .int b12, .int b13, .ref b14, .ref b15, .ref b16, .int b17, .ref b18, .ref b19, .ref b20, .ref b21, .ref b22, .ref b23, .ref b24, .ref b25, .ref b26, .ref b27, .ref b28, .ref b29, .int b30, .ref b31, .ref b32, .int b33, .int b34, .int b35, .int b36, .ref b37, .ref b38, .ref b39, .ref b40, .ref b41, .ref b42, .ref b43, .int b44, .ref b45, .ref b46, .int b47, .ref b48, .ref b49, .ref b50, .ref b51, .ref b52, .int b53, .ref b54, .ref b55, .ref b56])), (b4, .inl (G.2 0, 503, .inl b57))] H := hP
                    have hD := z_tie hP hD rfl
                    refine lv_aload_n hx hb d_Model_layStates_240 rfl (lv_at hl 4 rfl) ?_
                    refine va_get (D := G.1) (ci := 12) (v := .ref b23) (C := R_Model) (T := F_Model) (N := 54) hx hb hts i_Model hown hK hP 9 rfl rfl 20 (by decide) (hts _ q1129) (fun _ h9 => h9) rfl d_Model_layStates_241 ?_
                    refine lv_iload hx hb d_Model_layStates_244 (lv_at hl 3 rfl) ?_
                    refine lv_iload hx hb d_Model_layStates_246 (lv_at hl 1 rfl) ?_
                    refine lv_iadd hx hb d_Model_layStates_248 ?_
                    refine lv_topi (fun v_1404 ev_1404 => ?_)
                    obtain ⟨qv_1404, hv_1404⟩ := zI_add (l := 241) (h := 481) zc_241 hv_1316 ev_1404 (by decide)
                    rw [li_241] at qv_1404
                    refine lv_iload hx hb d_Model_layStates_249 (lv_at hl 0 rfl) ?_
                    refine va_iast hx hb hK hP hD hS 4 0 rfl rfl (zI.inn hv_1404 (by decide)) d_Model_layStates_251 (fun H locs hP hD hS => ?_)
                    obtain ⟨f_1405, hf_1405, gf_1405, uf_1405, hP, hD⟩ := z_newfu 4 hP hD rfl hy_1303 hy_1391
                    have hP : va_P G.1 classes [(b18, .inl (G.2 0, 2, .inl b58)), (b20, .inl (G.2 0, 520, .inl b59)), (b21, .inl (G.2 0, 9640, .inl y_763)), (b22, .inl (G.2 0, 482, .inl y_764)), (b23, .inl (G.2 0, 482, .inl f_1405)), (b24, .inl (G.2 0, 2, .inl y_1304)), (b25, .inl (G.2 0, 482, .inl y_1305)), (b26, .inl (G.2 0, 482, .inl f_1403)), (b27, .inl (G.2 0, 482, .inl y_1307)), (b0, .inr (12, [.int b3, .ref b4, .ref b5, .ref b6, .ref b7, .int b8, .ref b9, .int b10, .int b11, .int b12, .int b13, .ref b14, .ref b15, .ref b16, .int b17, .ref b18, .ref b19, .ref b20, .ref b21, .ref b22, .ref b23, .ref b24, .ref b25, .ref b26, .ref b27, .ref b28, .ref b29, .int b30, .ref b31, .ref b32, .int b33, .int b34, .int b35, .int b36, .ref b37, .ref b38, .ref b39, .ref b40, .ref b41, .ref b42, .ref b43, .int b44, .ref b45, .ref b46, .int b47, .ref b48, .ref b49, .ref b50, .ref b51, .ref b52, .int b53, .ref b54, .ref b55, .ref b56])), (b4, .inl (G.2 0, 503, .inl b57))] H := hP
                    have hD := z_tie hP hD rfl
                    obtain ⟨v_1406, ev_1406⟩ : ∃ z : Int32, z = y_1302 + 1 := ⟨_, rfl⟩
                    obtain ⟨qv_1406, hv_1406⟩ := zI_add (l := 1) (h := 241) hv_1316 zc_1 ev_1406 (by decide)
                    rw [li_1] at qv_1406
                    refine lv_iinc (v := v_1406) (lv' := [(6, .int v_1406), (7, .int y_1391), (5, .int 1), (4, .int 241), (0, .ref b0), (1, .int 1), (2, .int b1), (3, .int b2)]) hx hb d_Model_layStates_252 hl (k := 1) rfl (by rw [ev_1406]; rfl) (by decide) rfl (fun ls hl => ?_)
                    refine lv_goto (tgt := 110) hx hb d_Model_layStates_255 (by decide) ?_
                    exact ihk_1301 (v_1406) (f_1405) (y_1304) (y_1305) (f_1403) (y_1307) _ _ _ (zI.wk (l' := 0) (h' := 241) hv_1406 (by decide)) hf_1405 hy_1304 hy_1305 (by omega) trivial trivial trivial (zm_up qv_1406 hmk_1301 (by decide)) hP hD hS (lv_sub hl [0, 2, 3, 4, 5, 6, 7] rfl)
                  · have _nhc_1398 := hc_1398
                    have ni_1407 := (fa_eq _ _).mp hc_1398
                    refine lv_aload_n hx hb d_Model_layStates_182 rfl (lv_at hl 4 rfl) ?_
                    refine va_get (D := G.1) (ci := 12) (v := .ref b25) (C := R_Model) (T := F_Model) (N := 54) hx hb hts i_Model hown hK hP 9 rfl rfl 22 (by decide) (hts _ q1131) (fun _ h9 => h9) rfl d_Model_layStates_183 ?_
                    refine lv_iload hx hb d_Model_layStates_186 (lv_at hl 3 rfl) ?_
                    refine lv_iload hx hb d_Model_layStates_188 (lv_at hl 0 rfl) ?_
                    refine lv_iadd hx hb d_Model_layStates_190 ?_
                    refine lv_topi (fun v_1408 ev_1408 => ?_)
                    obtain ⟨qv_1408, hv_1408⟩ := zI_add (l := 241) (h := 481) zc_241 hy_1391 ev_1408 (by decide)
                    rw [li_241] at qv_1408
                    refine lv_iload hx hb d_Model_layStates_191 (lv_at hl 1 rfl) ?_
                    refine va_iast hx hb hK hP hD hS 6 0 rfl rfl (zI.inn hv_1408 (by decide)) d_Model_layStates_193 (fun H locs hP hD hS => ?_)
                    obtain ⟨f_1409, hf_1409, gf_1409, uf_1409, hP, hD⟩ := z_newfu 6 hP hD rfl hy_1305 hv_1316
                    have hP : va_P G.1 classes [(b18, .inl (G.2 0, 2, .inl b58)), (b20, .inl (G.2 0, 520, .inl b59)), (b21, .inl (G.2 0, 9640, .inl y_763)), (b22, .inl (G.2 0, 482, .inl y_764)), (b23, .inl (G.2 0, 482, .inl y_1303)), (b24, .inl (G.2 0, 2, .inl y_1304)), (b25, .inl (G.2 0, 482, .inl f_1409)), (b26, .inl (G.2 0, 482, .inl y_1306)), (b27, .inl (G.2 0, 482, .inl y_1307)), (b0, .inr (12, [.int b3, .ref b4, .ref b5, .ref b6, .ref b7, .int b8, .ref b9, .int b10, .int b11, .int b12, .int b13, .ref b14, .ref b15, .ref b16, .int b17, .ref b18, .ref b19, .ref b20, .ref b21, .ref b22, .ref b23, .ref b24, .ref b25, .ref b26, .ref b27, .ref b28, .ref b29, .int b30, .ref b31, .ref b32, .int b33, .int b34, .int b35, .int b36, .ref b37, .ref b38, .ref b39, .ref b40, .ref b41, .ref b42, .ref b43, .int b44, .ref b45, .ref b46, .int b47, .ref b48, .ref b49, .ref b50, .ref b51, .ref b52, .int b53, .ref b54, .ref b55, .ref b56])), (b4, .inl (G.2 0, 503, .inl b57))] H := hP
                    have hD := z_tie hP hD rfl
                    refine lv_aload_n hx hb d_Model_layStates_194 rfl (lv_at hl 4 rfl) ?_
                    refine va_get (D := G.1) (ci := 12) (v := .ref b26) (C := R_Model) (T := F_Model) (N := 54) hx hb hts i_Model hown hK hP 9 rfl rfl 23 (by decide) (hts _ q1132) (fun _ h9 => h9) rfl d_Model_layStates_195 ?_
                    refine lv_iload hx hb d_Model_layStates_198 (lv_at hl 3 rfl) ?_
                    refine lv_iload hx hb d_Model_layStates_200 (lv_at hl 0 rfl) ?_
                    refine lv_iadd hx hb d_Model_layStates_202 ?_
                    refine lv_topi (fun v_1410 ev_1410 => ?_)
                    obtain rfl : v_1408 = v_1410 := ev_1408.trans ev_1410.symm
                    refine lv_iconst (v := 0) hx hb d_Model_layStates_203 (by decide) ?_
                    refine va_iast hx hb hK hP hD hS 7 0 rfl rfl (zI.inn hv_1408 (by decide)) d_Model_layStates_204 (fun H locs hP hD hS => ?_)
                    obtain ⟨f_1411, gf_1411, uf_1411, hP, hD⟩ := z_newFu 7 hP hD rfl
                    have hP : va_P G.1 classes [(b18, .inl (G.2 0, 2, .inl b58)), (b20, .inl (G.2 0, 520, .inl b59)), (b21, .inl (G.2 0, 9640, .inl y_763)), (b22, .inl (G.2 0, 482, .inl y_764)), (b23, .inl (G.2 0, 482, .inl y_1303)), (b24, .inl (G.2 0, 2, .inl y_1304)), (b25, .inl (G.2 0, 482, .inl f_1409)), (b26, .inl (G.2 0, 482, .inl f_1411)), (b27, .inl (G.2 0, 482, .inl y_1307)), (b0, .inr (12, [.int b3, .ref b4, .ref b5, .ref b6, .ref b7, .int b8, .ref b9, .int b10, .int b11, .int b12, .int b13, .ref b14, .ref b15, .ref b16, .int b17, .ref b18, .ref b19, .ref b20, .ref b21, .ref b22, .ref b23, .ref b24, .ref b25, .ref b26, .ref b27, .ref b28, .ref b29, .int b30, .ref b31, .ref b32, .int b33, .int b34, .int b35, .int b36, .ref b37, .ref b38, .ref b39, .ref b40, .ref b41, .ref b42, .ref b43, .int b44, .ref b45, .ref b46, .int b47, .ref b48, .ref b49, .ref b50, .ref b51, .ref b52, .int b53, .ref b54, .ref b55, .ref b56])), (b4, .inl (G.2 0, 503, .inl b57))] H := hP
                    have hD := z_tie hP hD rfl
                    refine lv_aload_n hx hb d_Model_layStates_205 rfl (lv_at hl 4 rfl) ?_
                    refine va_get (D := G.1) (ci := 12) (v := .ref b27) (C := R_Model) (T := F_Model) (N := 54) hx hb hts i_Model hown hK hP 9 rfl rfl 24 (by decide) (hts _ q1133) (fun _ h9 => h9) rfl d_Model_layStates_206 ?_
                    refine lv_iload hx hb d_Model_layStates_209 (lv_at hl 3 rfl) ?_
                    refine lv_iload hx hb d_Model_layStates_211 (lv_at hl 0 rfl) ?_
                    refine lv_iadd hx hb d_Model_layStates_213 ?_
                    refine lv_topi (fun v_1412 ev_1412 => ?_)
                    obtain rfl : v_1408 = v_1412 := ev_1408.trans ev_1412.symm
                    refine lv_iconst (v := 0) hx hb d_Model_layStates_214 (by decide) ?_
                    refine va_iast hx hb hK hP hD hS 8 0 rfl rfl (zI.inn hv_1408 (by decide)) d_Model_layStates_215 (fun H locs hP hD hS => ?_)
                    obtain ⟨f_1413, gf_1413, uf_1413, hP, hD⟩ := z_newFu 8 hP hD rfl
                    have hP : va_P G.1 classes [(b18, .inl (G.2 0, 2, .inl b58)), (b20, .inl (G.2 0, 520, .inl b59)), (b21, .inl (G.2 0, 9640, .inl y_763)), (b22, .inl (G.2 0, 482, .inl y_764)), (b23, .inl (G.2 0, 482, .inl y_1303)), (b24, .inl (G.2 0, 2, .inl y_1304)), (b25, .inl (G.2 0, 482, .inl f_1409)), (b26, .inl (G.2 0, 482, .inl f_1411)), (b27, .inl (G.2 0, 482, .inl f_1413)), (b0, .inr (12, [.int b3, .ref b4, .ref b5, .ref b6, .ref b7, .int b8, .ref b9, .int b10, .int b11, .int b12, .int b13, .ref b14, .ref b15, .ref b16, .int b17, .ref b18, .ref b19, .ref b20, .ref b21, .ref b22, .ref b23, .ref b24, .ref b25, .ref b26, .ref b27, .ref b28, .ref b29, .int b30, .ref b31, .ref b32, .int b33, .int b34, .int b35, .int b36, .ref b37, .ref b38, .ref b39, .ref b40, .ref b41, .ref b42, .ref b43, .int b44, .ref b45, .ref b46, .int b47, .ref b48, .ref b49, .ref b50, .ref b51, .ref b52, .int b53, .ref b54, .ref b55, .ref b56])), (b4, .inl (G.2 0, 503, .inl b57))] H := hP
                    have hD := z_tie hP hD rfl
                    refine lv_aload_n hx hb d_Model_layStates_216 rfl (lv_at hl 4 rfl) ?_
                    refine va_get (D := G.1) (ci := 12) (v := .ref b24) (C := R_Model) (T := F_Model) (N := 54) hx hb hts i_Model hown hK hP 9 rfl rfl 21 (by decide) (hts _ q1130) (fun _ h9 => h9) rfl d_Model_layStates_217 ?_
                    refine lv_iload_n hx hb d_Model_layStates_220 rfl (lv_at hl 5 rfl) ?_
                    refine lv_dup2_11 hx hb d_Model_layStates_221 rfl rfl ?_
                    refine va_iald hx hb hK hP 5 0 rfl rfl (i := 1) (z_in rfl) d_Model_layStates_222 ?_
                    refine lv_topi (fun v_1414 ev_1414 => ?_)
                    obtain rfl : v_1393 = v_1414 := ev_1393.trans ev_1414.symm
                    refine lv_iconst (v := 1) hx hb d_Model_layStates_223 (by decide) ?_
                    refine lv_iadd hx hb d_Model_layStates_224 ?_
                    refine lv_topi (fun v_1415 ev_1415 => ?_)
                    obtain ⟨qv_1415, hv_1415⟩ := zI_add (l := 1) (h := 241) hv_1394 zc_1 ev_1415 (by decide)
                    rw [li_1] at qv_1415
                    refine va_iast hx hb hK hP hD hS 5 0 rfl rfl (i := 1) (z_in rfl) d_Model_layStates_225 (fun H locs hP hD hS => ?_)
                    obtain ⟨f_1416, hf_1416, gf_1416, uf_1416, hP, hD⟩ := z_newfu 5 hP hD rfl hy_1304 (zI.wk (l' := 0) (h' := 241) hv_1415 (by decide))
                    have hP : va_P G.1 classes [(b18, .inl (G.2 0, 2, .inl b58)), (b20, .inl (G.2 0, 520, .inl b59)), (b21, .inl (G.2 0, 9640, .inl y_763)), (b22, .inl (G.2 0, 482, .inl y_764)), (b23, .inl (G.2 0, 482, .inl y_1303)), (b24, .inl (G.2 0, 2, .inl f_1416)), (b25, .inl (G.2 0, 482, .inl f_1409)), (b26, .inl (G.2 0, 482, .inl f_1411)), (b27, .inl (G.2 0, 482, .inl f_1413)), (b0, .inr (12, [.int b3, .ref b4, .ref b5, .ref b6, .ref b7, .int b8, .ref b9, .int b10, .int b11, .int b12, .int b13, .ref b14, .ref b15, .ref b16, .int b17, .ref b18, .ref b19, .ref b20, .ref b21, .ref b22, .ref b23, .ref b24, .ref b25, .ref b26, .ref b27, .ref b28, .ref b29, .int b30, .ref b31, .ref b32, .int b33, .int b34, .int b35, .int b36, .ref b37, .ref b38, .ref b39, .ref b40, .ref b41, .ref b42, .ref b43, .int b44, .ref b45, .ref b46, .int b47, .ref b48, .ref b49, .ref b50, .ref b51, .ref b52, .int b53, .ref b54, .ref b55, .ref b56])), (b4, .inl (G.2 0, 503, .inl b57))] H := hP
                    have hD := z_tie hP hD rfl
                    refine lv_aload_n hx hb d_Model_layStates_226 rfl (lv_at hl 4 rfl) ?_
                    refine va_get (D := G.1) (ci := 12) (v := .ref b26) (C := R_Model) (T := F_Model) (N := 54) hx hb hts i_Model hown hK hP 9 rfl rfl 23 (by decide) (hts _ q1132) (fun _ h9 => h9) rfl d_Model_layStates_227 ?_
                    refine lv_iload hx hb d_Model_layStates_230 (lv_at hl 3 rfl) ?_
                    refine lv_iload hx hb d_Model_layStates_232 (lv_at hl 0 rfl) ?_
                    refine lv_iadd hx hb d_Model_layStates_234 ?_
                    refine lv_topi (fun v_1417 ev_1417 => ?_)
                    obtain rfl : v_1408 = v_1417 := ev_1408.trans ev_1417.symm
                    refine lv_dup2_11 hx hb d_Model_layStates_235 rfl rfl ?_
                    refine va_iald hx hb hK hP 7 0 rfl rfl (zI.inn hv_1408 (by decide)) d_Model_layStates_236 ?_
                    refine lv_topi (fun v_1418 ev_1418 => ?_)
                    obtain rfl : v_1418 = 0 := ev_1418.trans gf_1411
                    refine lv_iconst (v := 1) hx hb d_Model_layStates_237 (by decide) ?_
                    refine lv_iadd hx hb d_Model_layStates_238 ?_
                    refine z_topi (y := 1) (by decide +kernel) ?_
                    refine va_iast hx hb hK hP hD hS 7 0 rfl rfl (zI.inn hv_1408 (by decide)) d_Model_layStates_239 (fun H locs hP hD hS => ?_)
                    obtain ⟨f_1419, gf_1419, uf_1419, hP, hD⟩ := z_newFu 7 hP hD rfl
                    have hP : va_P G.1 classes [(b18, .inl (G.2 0, 2, .inl b58)), (b20, .inl (G.2 0, 520, .inl b59)), (b21, .inl (G.2 0, 9640, .inl y_763)), (b22, .inl (G.2 0, 482, .inl y_764)), (b23, .inl (G.2 0, 482, .inl y_1303)), (b24, .inl (G.2 0, 2, .inl f_1416)), (b25, .inl (G.2 0, 482, .inl f_1409)), (b26, .inl (G.2 0, 482, .inl f_1419)), (b27, .inl (G.2 0, 482, .inl f_1413)), (b0, .inr (12, [.int b3, .ref b4, .ref b5, .ref b6, .ref b7, .int b8, .ref b9, .int b10, .int b11, .int b12, .int b13, .ref b14, .ref b15, .ref b16, .int b17, .ref b18, .ref b19, .ref b20, .ref b21, .ref b22, .ref b23, .ref b24, .ref b25, .ref b26, .ref b27, .ref b28, .ref b29, .int b30, .ref b31, .ref b32, .int b33, .int b34, .int b35, .int b36, .ref b37, .ref b38, .ref b39, .ref b40, .ref b41, .ref b42, .ref b43, .int b44, .ref b45, .ref b46, .int b47, .ref b48, .ref b49, .ref b50, .ref b51, .ref b52, .int b53, .ref b54, .ref b55, .ref b56])), (b4, .inl (G.2 0, 503, .inl b57))] H := hP
                    have hD := z_tie hP hD rfl
                    refine lv_aload_n hx hb d_Model_layStates_240 rfl (lv_at hl 4 rfl) ?_
                    refine va_get (D := G.1) (ci := 12) (v := .ref b23) (C := R_Model) (T := F_Model) (N := 54) hx hb hts i_Model hown hK hP 9 rfl rfl 20 (by decide) (hts _ q1129) (fun _ h9 => h9) rfl d_Model_layStates_241 ?_
                    refine lv_iload hx hb d_Model_layStates_244 (lv_at hl 3 rfl) ?_
                    refine lv_iload hx hb d_Model_layStates_246 (lv_at hl 1 rfl) ?_
                    refine lv_iadd hx hb d_Model_layStates_248 ?_
                    refine lv_topi (fun v_1420 ev_1420 => ?_)
                    obtain ⟨qv_1420, hv_1420⟩ := zI_add (l := 241) (h := 481) zc_241 hv_1316 ev_1420 (by decide)
                    rw [li_241] at qv_1420
                    refine lv_iload hx hb d_Model_layStates_249 (lv_at hl 0 rfl) ?_
                    refine va_iast hx hb hK hP hD hS 4 0 rfl rfl (zI.inn hv_1420 (by decide)) d_Model_layStates_251 (fun H locs hP hD hS => ?_)
                    obtain ⟨f_1421, hf_1421, gf_1421, uf_1421, hP, hD⟩ := z_newfu 4 hP hD rfl hy_1303 hy_1391
                    have hP : va_P G.1 classes [(b18, .inl (G.2 0, 2, .inl b58)), (b20, .inl (G.2 0, 520, .inl b59)), (b21, .inl (G.2 0, 9640, .inl y_763)), (b22, .inl (G.2 0, 482, .inl y_764)), (b23, .inl (G.2 0, 482, .inl f_1421)), (b24, .inl (G.2 0, 2, .inl f_1416)), (b25, .inl (G.2 0, 482, .inl f_1409)), (b26, .inl (G.2 0, 482, .inl f_1419)), (b27, .inl (G.2 0, 482, .inl f_1413)), (b0, .inr (12, [.int b3, .ref b4, .ref b5, .ref b6, .ref b7, .int b8, .ref b9, .int b10, .int b11, .int b12, .int b13, .ref b14, .ref b15, .ref b16, .int b17, .ref b18, .ref b19, .ref b20, .ref b21, .ref b22, .ref b23, .ref b24, .ref b25, .ref b26, .ref b27, .ref b28, .ref b29, .int b30, .ref b31, .ref b32, .int b33, .int b34, .int b35, .int b36, .ref b37, .ref b38, .ref b39, .ref b40, .ref b41, .ref b42, .ref b43, .int b44, .ref b45, .ref b46, .int b47, .ref b48, .ref b49, .ref b50, .ref b51, .ref b52, .int b53, .ref b54, .ref b55, .ref b56])), (b4, .inl (G.2 0, 503, .inl b57))] H := hP
                    have hD := z_tie hP hD rfl
                    obtain ⟨v_1422, ev_1422⟩ : ∃ z : Int32, z = y_1302 + 1 := ⟨_, rfl⟩
                    obtain ⟨qv_1422, hv_1422⟩ := zI_add (l := 1) (h := 241) hv_1316 zc_1 ev_1422 (by decide)
                    rw [li_1] at qv_1422
                    refine lv_iinc (v := v_1422) (lv' := [(6, .int v_1422), (7, .int y_1391), (5, .int 1), (4, .int 241), (0, .ref b0), (1, .int 1), (2, .int b1), (3, .int b2)]) hx hb d_Model_layStates_252 hl (k := 1) rfl (by rw [ev_1422]; rfl) (by decide) rfl (fun ls hl => ?_)
                    refine lv_goto (tgt := 110) hx hb d_Model_layStates_255 (by decide) ?_
                    exact ihk_1301 (v_1422) (f_1421) (f_1416) (f_1409) (f_1419) (f_1413) _ _ _ (zI.wk (l' := 0) (h' := 241) hv_1422 (by decide)) hf_1421 hf_1416 hf_1409 (by rw [gf_1416]; omega) trivial trivial trivial (zm_up qv_1422 hmk_1301 (by decide)) hP hD hS (lv_sub hl [0, 2, 3, 4, 5, 6, 7] rfl)
                · have _nhc_1395 := hc_1395
                  have ni_1423 := (fa_lt _ _).mp (zi_nle hc_1395)
                  have hv_1424 : zI y_1391 0 239 := zI.lt_l hy_1391 hv_1394 (zi_nle hc_1395) (by decide)
                  have hv_1425 : zI v_1393 1 240 := zI.lt_r hy_1391 hv_1394 (zi_nle hc_1395) (by decide)
                  refine lv_aload_n hx hb d_Model_layStates_140 rfl (lv_at hl 4 rfl) ?_
                  refine lv_iload hx hb d_Model_layStates_141 (lv_at hl 3 rfl) ?_
                  refine lv_aload_n hx hb d_Model_layStates_143 rfl (lv_at hl 4 rfl) ?_
                  refine va_get (D := G.1) (ci := 12) (v := .ref b25) (C := R_Model) (T := F_Model) (N := 54) hx hb hts i_Model hown hK hP 9 rfl rfl 22 (by decide) (hts _ q1131) (fun _ h9 => h9) rfl d_Model_layStates_144 ?_
                  refine lv_iload hx hb d_Model_layStates_147 (lv_at hl 3 rfl) ?_
                  refine lv_iload hx hb d_Model_layStates_149 (lv_at hl 0 rfl) ?_
                  refine lv_iadd hx hb d_Model_layStates_151 ?_
                  refine lv_topi (fun v_1426 ev_1426 => ?_)
                  obtain ⟨qv_1426, hv_1426⟩ := zI_add (l := 241) (h := 480) zc_241 hv_1424 ev_1426 (by decide)
                  rw [li_241] at qv_1426
                  refine va_iald hx hb hK hP 6 0 rfl rfl (zI.inn hv_1426 (by decide)) d_Model_layStates_152 ?_
                  refine lv_topi (fun v_1427 ev_1427 => ?_)
                  have hv_1427 : zI v_1427 0 240 := (hy_1305 _).eq ev_1427
                  refine lv_iadd hx hb d_Model_layStates_153 ?_
                  refine lv_topi (fun v_1428 ev_1428 => ?_)
                  obtain ⟨qv_1428, hv_1428⟩ := zI_add (l := 241) (h := 481) zc_241 hv_1427 ev_1428 (by decide)
                  rw [li_241] at qv_1428
                  refine lv_iload hx hb d_Model_layStates_154 (lv_at hl 3 rfl) ?_
                  refine lv_iload hx hb d_Model_layStates_156 (lv_at hl 1 rfl) ?_
                  refine lv_iadd hx hb d_Model_layStates_158 ?_
                  refine lv_topi (fun v_1429 ev_1429 => ?_)
                  obtain ⟨qv_1429, hv_1429⟩ := zI_add (l := 241) (h := 481) zc_241 hv_1316 ev_1429 (by decide)
                  rw [li_241] at qv_1429
                  refine z_callV (index := 221) (As := [.int v_1428, .int v_1429]) (rest := []) (wr := [(b18, .inl (G.2 0, 2, .inl b58)), (b20, .inl (G.2 0, 520, .inl b59)), (b23, .inl (G.2 0, 482, .inl y_1303)), (b24, .inl (G.2 0, 2, .inl y_1304)), (b25, .inl (G.2 0, 482, .inl y_1305)), (b26, .inl (G.2 0, 482, .inl y_1306)), (b27, .inl (G.2 0, 482, .inl y_1307)), (b4, .inl (G.2 0, 503, .inl b57))]) Z (s1_Model_areAlike l G (b0) (v_1428) (v_1429) (b3) (b4) (b5) (b6) (b7) (b8) (b9) (b10) (b11) (b12) (b13) (b14) (b15) (b16) (b17) (b18) (b19) (b20) (b21) (b22) (b23) (b24) (b25) (b26) (b27) (b28) (b29) (b30) (b31) (b32) (b33) (b34) (b35) (b36) (b37) (b38) (b39) (b40) (b41) (b42) (b43) (b44) (b45) (b46) (b47) (b48) (b49) (b50) (b51) (b52) (b53) (b54) (b55) (b56) (y_763) (y_764) (zI.wk (l' := 0) (h' := 481) hv_1428 (by decide)) (zI.wk (l' := 0) (h' := 481) hv_1429 (by decide)) hb8 hb10 hb11 hb13 hb17 hb30 hb33 hb44 hb47 hb53 hy_764) hl.1 q1392 q1394 qs64 q14 q1395 ⟨by decide, by decide, by show _ = some 2; decide +kernel⟩ ⟨Nat.le_of_ble_eq_true rfl, Nat.le_of_ble_eq_true rfl⟩ ⟨Nat.le_of_ble_eq_true rfl, Nat.le_of_ble_eq_true rfl⟩ rfl (Nat.le_of_ble_eq_true rfl) d_Model_layStates_159 hP hD hS hA 9 12 rfl rfl rfl [9, 2, 3] [0, 1, 4, 5, 6, 7, 8, 10] rfl rfl rfl rfl (by decide) (fun v w1 H locs hw_1430 hP hD hS => ?_)
                  obtain ⟨x_1431, rfl, rfl, hx_1431⟩ := hw_1430
                  have hP : va_P G.1 classes [(b18, .inl (G.2 0, 2, .inl b58)), (b20, .inl (G.2 0, 520, .inl b59)), (b23, .inl (G.2 0, 482, .inl y_1303)), (b24, .inl (G.2 0, 2, .inl y_1304)), (b25, .inl (G.2 0, 482, .inl y_1305)), (b26, .inl (G.2 0, 482, .inl y_1306)), (b27, .inl (G.2 0, 482, .inl y_1307)), (b4, .inl (G.2 0, 503, .inl b57)), (b0, .inr (12, [.int b3, .ref b4, .ref b5, .ref b6, .ref b7, .int b8, .ref b9, .int b10, .int b11, .int b12, .int b13, .ref b14, .ref b15, .ref b16, .int b17, .ref b18, .ref b19, .ref b20, .ref b21, .ref b22, .ref b23, .ref b24, .ref b25, .ref b26, .ref b27, .ref b28, .ref b29, .int b30, .ref b31, .ref b32, .int b33, .int b34, .int b35, .int b36, .ref b37, .ref b38, .ref b39, .ref b40, .ref b41, .ref b42, .ref b43, .int b44, .ref b45, .ref b46, .int b47, .ref b48, .ref b49, .ref b50, .ref b51, .ref b52, .int b53, .ref b54, .ref b55, .ref b56])), (b21, .inl (G.2 0, 9640, .inl y_763)), (b22, .inl (G.2 0, 482, .inl y_764))] H := hP
                  have hD := z_tie hP hD rfl
                  refine W.widen (k := 0) (n := 0) (Nat.le_of_ble_eq_true rfl) (Nat.le_of_ble_eq_true rfl) ?_
                  refine lv_if_ne (tgt := 171) hx hb d_Model_layStates_162 (by decide) (fun hc_1432 => ?_) (fun hc_1432 => ?_)
                  · have _nhc_1432 := hc_1432
                    have ni_1433 : ¬ (x_1431 : Int32).toInt = (0 : Int32).toInt := fun z => hc_1432 ((fa_eq _ _).mpr z)
                    simp only [li_0] at ni_1433
                    have hv_1434 : zI x_1431 1 1 := zI.ne_lo hx_1431 zc_0 hc_1432 (by decide)
                    refine lv_iload hx hb d_Model_layStates_171 (lv_at hl 0 rfl) ?_
                    refine lv_aload_n hx hb d_Model_layStates_173 rfl (lv_at hl 4 rfl) ?_
                    refine va_get (D := G.1) (ci := 12) (v := .ref b24) (C := R_Model) (T := F_Model) (N := 54) hx hb hts i_Model hown hK hP 8 rfl rfl 21 (by decide) (hts _ q1130) (fun _ h9 => h9) rfl d_Model_layStates_174 ?_
                    refine lv_iload_n hx hb d_Model_layStates_177 rfl (lv_at hl 5 rfl) ?_
                    refine va_iald hx hb hK hP 3 0 rfl rfl (i := 1) (z_in rfl) d_Model_layStates_178 ?_
                    refine lv_topi (fun v_1435 ev_1435 => ?_)
                    obtain rfl : v_1393 = v_1435 := ev_1393.trans ev_1435.symm
                    refine lv_icmp_ne (tgt := 226) hx hb d_Model_layStates_179 (by decide) (fun hc_1436 => ?_) (fun hc_1436 => ?_)
                    · have _nhc_1436 := hc_1436
                      have ni_1437 : ¬ (y_1391 : Int32).toInt = (v_1393 : Int32).toInt := fun z => hc_1436 ((fa_eq _ _).mpr z)
                      refine lv_aload_n hx hb d_Model_layStates_226 rfl (lv_at hl 4 rfl) ?_
                      refine va_get (D := G.1) (ci := 12) (v := .ref b26) (C := R_Model) (T := F_Model) (N := 54) hx hb hts i_Model hown hK hP 8 rfl rfl 23 (by decide) (hts _ q1132) (fun _ h9 => h9) rfl d_Model_layStates_227 ?_
                      refine lv_iload hx hb d_Model_layStates_230 (lv_at hl 3 rfl) ?_
                      refine lv_iload hx hb d_Model_layStates_232 (lv_at hl 0 rfl) ?_
                      refine lv_iadd hx hb d_Model_layStates_234 ?_
                      refine lv_topi (fun v_1438 ev_1438 => ?_)
                      obtain rfl : v_1426 = v_1438 := ev_1426.trans ev_1438.symm
                      refine lv_dup2_11 hx hb d_Model_layStates_235 rfl rfl ?_
                      refine va_iald hx hb hK hP 5 0 rfl rfl (zI.inn hv_1426 (by decide)) d_Model_layStates_236 ?_
                      refine lv_topi (fun v_1439 ev_1439 => ?_)
                      refine lv_iconst (v := 1) hx hb d_Model_layStates_237 (by decide) ?_
                      refine lv_iadd hx hb d_Model_layStates_238 ?_
                      refine lv_topi (fun v_1440 ev_1440 => ?_)
                      refine va_iast hx hb hK hP hD hS 5 0 rfl rfl (zI.inn hv_1426 (by decide)) d_Model_layStates_239 (fun H locs hP hD hS => ?_)
                      obtain ⟨f_1441, gf_1441, uf_1441, hP, hD⟩ := z_newFu 5 hP hD rfl
                      have hP : va_P G.1 classes [(b18, .inl (G.2 0, 2, .inl b58)), (b20, .inl (G.2 0, 520, .inl b59)), (b23, .inl (G.2 0, 482, .inl y_1303)), (b24, .inl (G.2 0, 2, .inl y_1304)), (b25, .inl (G.2 0, 482, .inl y_1305)), (b26, .inl (G.2 0, 482, .inl f_1441)), (b27, .inl (G.2 0, 482, .inl y_1307)), (b4, .inl (G.2 0, 503, .inl b57)), (b0, .inr (12, [.int b3, .ref b4, .ref b5, .ref b6, .ref b7, .int b8, .ref b9, .int b10, .int b11, .int b12, .int b13, .ref b14, .ref b15, .ref b16, .int b17, .ref b18, .ref b19, .ref b20, .ref b21, .ref b22, .ref b23, .ref b24, .ref b25, .ref b26, .ref b27, .ref b28, .ref b29, .int b30, .ref b31, .ref b32, .int b33, .int b34, .int b35, .int b36, .ref b37, .ref b38, .ref b39, .ref b40, .ref b41, .ref b42, .ref b43, .int b44, .ref b45, .ref b46, .int b47, .ref b48, .ref b49, .ref b50, .ref b51, .ref b52, .int b53, .ref b54, .ref b55, .ref b56])), (b21, .inl (G.2 0, 9640, .inl y_763)), (b22, .inl (G.2 0, 482, .inl y_764))] H := hP
                      have hD := z_tie hP hD rfl
                      refine lv_aload_n hx hb d_Model_layStates_240 rfl (lv_at hl 4 rfl) ?_
                      refine va_get (D := G.1) (ci := 12) (v := .ref b23) (C := R_Model) (T := F_Model) (N := 54) hx hb hts i_Model hown hK hP 8 rfl rfl 20 (by decide) (hts _ q1129) (fun _ h9 => h9) rfl d_Model_layStates_241 ?_
                      refine lv_iload hx hb d_Model_layStates_244 (lv_at hl 3 rfl) ?_
                      refine lv_iload hx hb d_Model_layStates_246 (lv_at hl 1 rfl) ?_
                      refine lv_iadd hx hb d_Model_layStates_248 ?_
                      refine lv_topi (fun v_1442 ev_1442 => ?_)
                      obtain rfl : v_1429 = v_1442 := ev_1429.trans ev_1442.symm
                      refine lv_iload hx hb d_Model_layStates_249 (lv_at hl 0 rfl) ?_
                      refine va_iast hx hb hK hP hD hS 2 0 rfl rfl (zI.inn hv_1429 (by decide)) d_Model_layStates_251 (fun H locs hP hD hS => ?_)
                      obtain ⟨f_1443, hf_1443, gf_1443, uf_1443, hP, hD⟩ := z_newfu 2 hP hD rfl hy_1303 (zI.wk (l' := 0) (h' := 240) hv_1424 (by decide))
                      have hP : va_P G.1 classes [(b18, .inl (G.2 0, 2, .inl b58)), (b20, .inl (G.2 0, 520, .inl b59)), (b23, .inl (G.2 0, 482, .inl f_1443)), (b24, .inl (G.2 0, 2, .inl y_1304)), (b25, .inl (G.2 0, 482, .inl y_1305)), (b26, .inl (G.2 0, 482, .inl f_1441)), (b27, .inl (G.2 0, 482, .inl y_1307)), (b4, .inl (G.2 0, 503, .inl b57)), (b0, .inr (12, [.int b3, .ref b4, .ref b5, .ref b6, .ref b7, .int b8, .ref b9, .int b10, .int b11, .int b12, .int b13, .ref b14, .ref b15, .ref b16, .int b17, .ref b18, .ref b19, .ref b20, .ref b21, .ref b22, .ref b23, .ref b24, .ref b25, .ref b26, .ref b27, .ref b28, .ref b29, .int b30, .ref b31, .ref b32, .int b33, .int b34, .int b35, .int b36, .ref b37, .ref b38, .ref b39, .ref b40, .ref b41, .ref b42, .ref b43, .int b44, .ref b45, .ref b46, .int b47, .ref b48, .ref b49, .ref b50, .ref b51, .ref b52, .int b53, .ref b54, .ref b55, .ref b56])), (b21, .inl (G.2 0, 9640, .inl y_763)), (b22, .inl (G.2 0, 482, .inl y_764))] H := hP
                      have hD := z_tie hP hD rfl
                      obtain ⟨v_1444, ev_1444⟩ : ∃ z : Int32, z = y_1302 + 1 := ⟨_, rfl⟩
                      obtain ⟨qv_1444, hv_1444⟩ := zI_add (l := 1) (h := 241) hv_1316 zc_1 ev_1444 (by decide)
                      rw [li_1] at qv_1444
                      refine lv_iinc (v := v_1444) (lv' := [(6, .int v_1444), (7, .int y_1391), (5, .int 1), (4, .int 241), (0, .ref b0), (1, .int 1), (2, .int b1), (3, .int b2)]) hx hb d_Model_layStates_252 hl (k := 1) rfl (by rw [ev_1444]; rfl) (by decide) rfl (fun ls hl => ?_)
                      refine lv_goto (tgt := 110) hx hb d_Model_layStates_255 (by decide) ?_
                      exact ihk_1301 (v_1444) (f_1443) (y_1304) (y_1305) (f_1441) (y_1307) _ _ _ (zI.wk (l' := 0) (h' := 241) hv_1444 (by decide)) hf_1443 hy_1304 hy_1305 (by omega) trivial trivial trivial (zm_up qv_1444 hmk_1301 (by decide)) (hP.sub [0, 1, 9, 10, 2, 3, 4, 5, 6, 8, 7] rfl) (hD.sub [0, 1, 9, 10, 2, 3, 4, 5, 6, 8, 7] (by decide) rfl) hS (lv_sub hl [0, 2, 3, 4, 5, 6, 7] rfl)
                    · have _nhc_1436 := hc_1436
                      have ni_1445 := (fa_eq _ _).mp hc_1436
                      refine lv_aload_n hx hb d_Model_layStates_182 rfl (lv_at hl 4 rfl) ?_
                      refine va_get (D := G.1) (ci := 12) (v := .ref b25) (C := R_Model) (T := F_Model) (N := 54) hx hb hts i_Model hown hK hP 8 rfl rfl 22 (by decide) (hts _ q1131) (fun _ h9 => h9) rfl d_Model_layStates_183 ?_
                      refine lv_iload hx hb d_Model_layStates_186 (lv_at hl 3 rfl) ?_
                      refine lv_iload hx hb d_Model_layStates_188 (lv_at hl 0 rfl) ?_
                      refine lv_iadd hx hb d_Model_layStates_190 ?_
                      refine lv_topi (fun v_1446 ev_1446 => ?_)
                      obtain rfl : v_1426 = v_1446 := ev_1426.trans ev_1446.symm
                      refine lv_iload hx hb d_Model_layStates_191 (lv_at hl 1 rfl) ?_
                      refine va_iast hx hb hK hP hD hS 4 0 rfl rfl (zI.inn hv_1426 (by decide)) d_Model_layStates_193 (fun H locs hP hD hS => ?_)
                      obtain ⟨f_1447, hf_1447, gf_1447, uf_1447, hP, hD⟩ := z_newfu 4 hP hD rfl hy_1305 hv_1316
                      have hP : va_P G.1 classes [(b18, .inl (G.2 0, 2, .inl b58)), (b20, .inl (G.2 0, 520, .inl b59)), (b23, .inl (G.2 0, 482, .inl y_1303)), (b24, .inl (G.2 0, 2, .inl y_1304)), (b25, .inl (G.2 0, 482, .inl f_1447)), (b26, .inl (G.2 0, 482, .inl y_1306)), (b27, .inl (G.2 0, 482, .inl y_1307)), (b4, .inl (G.2 0, 503, .inl b57)), (b0, .inr (12, [.int b3, .ref b4, .ref b5, .ref b6, .ref b7, .int b8, .ref b9, .int b10, .int b11, .int b12, .int b13, .ref b14, .ref b15, .ref b16, .int b17, .ref b18, .ref b19, .ref b20, .ref b21, .ref b22, .ref b23, .ref b24, .ref b25, .ref b26, .ref b27, .ref b28, .ref b29, .int b30, .ref b31, .ref b32, .int b33, .int b34, .int b35, .int b36, .ref b37, .ref b38, .ref b39, .ref b40, .ref b41, .ref b42, .ref b43, .int b44, .ref b45, .ref b46, .int b47, .ref b48, .ref b49, .ref b50, .ref b51, .ref b52, .int b53, .ref b54, .ref b55, .ref b56])), (b21, .inl (G.2 0, 9640, .inl y_763)), (b22, .inl (G.2 0, 482, .inl y_764))] H := hP
                      have hD := z_tie hP hD rfl
                      refine lv_aload_n hx hb d_Model_layStates_194 rfl (lv_at hl 4 rfl) ?_
                      refine va_get (D := G.1) (ci := 12) (v := .ref b26) (C := R_Model) (T := F_Model) (N := 54) hx hb hts i_Model hown hK hP 8 rfl rfl 23 (by decide) (hts _ q1132) (fun _ h9 => h9) rfl d_Model_layStates_195 ?_
                      refine lv_iload hx hb d_Model_layStates_198 (lv_at hl 3 rfl) ?_
                      refine lv_iload hx hb d_Model_layStates_200 (lv_at hl 0 rfl) ?_
                      refine lv_iadd hx hb d_Model_layStates_202 ?_
                      refine lv_topi (fun v_1448 ev_1448 => ?_)
                      obtain rfl : v_1426 = v_1448 := ev_1426.trans ev_1448.symm
                      refine lv_iconst (v := 0) hx hb d_Model_layStates_203 (by decide) ?_
                      refine va_iast hx hb hK hP hD hS 5 0 rfl rfl (zI.inn hv_1426 (by decide)) d_Model_layStates_204 (fun H locs hP hD hS => ?_)
                      obtain ⟨f_1449, gf_1449, uf_1449, hP, hD⟩ := z_newFu 5 hP hD rfl
                      have hP : va_P G.1 classes [(b18, .inl (G.2 0, 2, .inl b58)), (b20, .inl (G.2 0, 520, .inl b59)), (b23, .inl (G.2 0, 482, .inl y_1303)), (b24, .inl (G.2 0, 2, .inl y_1304)), (b25, .inl (G.2 0, 482, .inl f_1447)), (b26, .inl (G.2 0, 482, .inl f_1449)), (b27, .inl (G.2 0, 482, .inl y_1307)), (b4, .inl (G.2 0, 503, .inl b57)), (b0, .inr (12, [.int b3, .ref b4, .ref b5, .ref b6, .ref b7, .int b8, .ref b9, .int b10, .int b11, .int b12, .int b13, .ref b14, .ref b15, .ref b16, .int b17, .ref b18, .ref b19, .ref b20, .ref b21, .ref b22, .ref b23, .ref b24, .ref b25, .ref b26, .ref b27, .ref b28, .ref b29, .int b30, .ref b31, .ref b32, .int b33, .int b34, .int b35, .int b36, .ref b37, .ref b38, .ref b39, .ref b40, .ref b41, .ref b42, .ref b43, .int b44, .ref b45, .ref b46, .int b47, .ref b48, .ref b49, .ref b50, .ref b51, .ref b52, .int b53, .ref b54, .ref b55, .ref b56])), (b21, .inl (G.2 0, 9640, .inl y_763)), (b22, .inl (G.2 0, 482, .inl y_764))] H := hP
                      have hD := z_tie hP hD rfl
                      refine lv_aload_n hx hb d_Model_layStates_205 rfl (lv_at hl 4 rfl) ?_
                      refine va_get (D := G.1) (ci := 12) (v := .ref b27) (C := R_Model) (T := F_Model) (N := 54) hx hb hts i_Model hown hK hP 8 rfl rfl 24 (by decide) (hts _ q1133) (fun _ h9 => h9) rfl d_Model_layStates_206 ?_
                      refine lv_iload hx hb d_Model_layStates_209 (lv_at hl 3 rfl) ?_
                      refine lv_iload hx hb d_Model_layStates_211 (lv_at hl 0 rfl) ?_
                      refine lv_iadd hx hb d_Model_layStates_213 ?_
                      refine lv_topi (fun v_1450 ev_1450 => ?_)
                      obtain rfl : v_1426 = v_1450 := ev_1426.trans ev_1450.symm
                      refine lv_iconst (v := 0) hx hb d_Model_layStates_214 (by decide) ?_
                      refine va_iast hx hb hK hP hD hS 6 0 rfl rfl (zI.inn hv_1426 (by decide)) d_Model_layStates_215 (fun H locs hP hD hS => ?_)
                      obtain ⟨f_1451, gf_1451, uf_1451, hP, hD⟩ := z_newFu 6 hP hD rfl
                      have hP : va_P G.1 classes [(b18, .inl (G.2 0, 2, .inl b58)), (b20, .inl (G.2 0, 520, .inl b59)), (b23, .inl (G.2 0, 482, .inl y_1303)), (b24, .inl (G.2 0, 2, .inl y_1304)), (b25, .inl (G.2 0, 482, .inl f_1447)), (b26, .inl (G.2 0, 482, .inl f_1449)), (b27, .inl (G.2 0, 482, .inl f_1451)), (b4, .inl (G.2 0, 503, .inl b57)), (b0, .inr (12, [.int b3, .ref b4, .ref b5, .ref b6, .ref b7, .int b8, .ref b9, .int b10, .int b11, .int b12, .int b13, .ref b14, .ref b15, .ref b16, .int b17, .ref b18, .ref b19, .ref b20, .ref b21, .ref b22, .ref b23, .ref b24, .ref b25, .ref b26, .ref b27, .ref b28, .ref b29, .int b30, .ref b31, .ref b32, .int b33, .int b34, .int b35, .int b36, .ref b37, .ref b38, .ref b39, .ref b40, .ref b41, .ref b42, .ref b43, .int b44, .ref b45, .ref b46, .int b47, .ref b48, .ref b49, .ref b50, .ref b51, .ref b52, .int b53, .ref b54, .ref b55, .ref b56])), (b21, .inl (G.2 0, 9640, .inl y_763)), (b22, .inl (G.2 0, 482, .inl y_764))] H := hP
                      have hD := z_tie hP hD rfl
                      refine lv_aload_n hx hb d_Model_layStates_216 rfl (lv_at hl 4 rfl) ?_
                      refine va_get (D := G.1) (ci := 12) (v := .ref b24) (C := R_Model) (T := F_Model) (N := 54) hx hb hts i_Model hown hK hP 8 rfl rfl 21 (by decide) (hts _ q1130) (fun _ h9 => h9) rfl d_Model_layStates_217 ?_
                      refine lv_iload_n hx hb d_Model_layStates_220 rfl (lv_at hl 5 rfl) ?_
                      refine lv_dup2_11 hx hb d_Model_layStates_221 rfl rfl ?_
                      refine va_iald hx hb hK hP 3 0 rfl rfl (i := 1) (z_in rfl) d_Model_layStates_222 ?_
                      refine lv_topi (fun v_1452 ev_1452 => ?_)
                      obtain rfl : v_1393 = v_1452 := ev_1393.trans ev_1452.symm
                      refine lv_iconst (v := 1) hx hb d_Model_layStates_223 (by decide) ?_
                      refine lv_iadd hx hb d_Model_layStates_224 ?_
                      refine lv_topi (fun v_1453 ev_1453 => ?_)
                      obtain ⟨qv_1453, hv_1453⟩ := zI_add (l := 2) (h := 241) hv_1425 zc_1 ev_1453 (by decide)
                      rw [li_1] at qv_1453
                      refine va_iast hx hb hK hP hD hS 3 0 rfl rfl (i := 1) (z_in rfl) d_Model_layStates_225 (fun H locs hP hD hS => ?_)
                      obtain ⟨f_1454, hf_1454, gf_1454, uf_1454, hP, hD⟩ := z_newfu 3 hP hD rfl hy_1304 (zI.wk (l' := 0) (h' := 241) hv_1453 (by decide))
                      have hP : va_P G.1 classes [(b18, .inl (G.2 0, 2, .inl b58)), (b20, .inl (G.2 0, 520, .inl b59)), (b23, .inl (G.2 0, 482, .inl y_1303)), (b24, .inl (G.2 0, 2, .inl f_1454)), (b25, .inl (G.2 0, 482, .inl f_1447)), (b26, .inl (G.2 0, 482, .inl f_1449)), (b27, .inl (G.2 0, 482, .inl f_1451)), (b4, .inl (G.2 0, 503, .inl b57)), (b0, .inr (12, [.int b3, .ref b4, .ref b5, .ref b6, .ref b7, .int b8, .ref b9, .int b10, .int b11, .int b12, .int b13, .ref b14, .ref b15, .ref b16, .int b17, .ref b18, .ref b19, .ref b20, .ref b21, .ref b22, .ref b23, .ref b24, .ref b25, .ref b26, .ref b27, .ref b28, .ref b29, .int b30, .ref b31, .ref b32, .int b33, .int b34, .int b35, .int b36, .ref b37, .ref b38, .ref b39, .ref b40, .ref b41, .ref b42, .ref b43, .int b44, .ref b45, .ref b46, .int b47, .ref b48, .ref b49, .ref b50, .ref b51, .ref b52, .int b53, .ref b54, .ref b55, .ref b56])), (b21, .inl (G.2 0, 9640, .inl y_763)), (b22, .inl (G.2 0, 482, .inl y_764))] H := hP
                      have hD := z_tie hP hD rfl
                      refine lv_aload_n hx hb d_Model_layStates_226 rfl (lv_at hl 4 rfl) ?_
                      refine va_get (D := G.1) (ci := 12) (v := .ref b26) (C := R_Model) (T := F_Model) (N := 54) hx hb hts i_Model hown hK hP 8 rfl rfl 23 (by decide) (hts _ q1132) (fun _ h9 => h9) rfl d_Model_layStates_227 ?_
                      refine lv_iload hx hb d_Model_layStates_230 (lv_at hl 3 rfl) ?_
                      refine lv_iload hx hb d_Model_layStates_232 (lv_at hl 0 rfl) ?_
                      refine lv_iadd hx hb d_Model_layStates_234 ?_
                      refine lv_topi (fun v_1455 ev_1455 => ?_)
                      obtain rfl : v_1426 = v_1455 := ev_1426.trans ev_1455.symm
                      refine lv_dup2_11 hx hb d_Model_layStates_235 rfl rfl ?_
                      refine va_iald hx hb hK hP 5 0 rfl rfl (zI.inn hv_1426 (by decide)) d_Model_layStates_236 ?_
                      refine lv_topi (fun v_1456 ev_1456 => ?_)
                      obtain rfl : v_1456 = 0 := ev_1456.trans gf_1449
                      refine lv_iconst (v := 1) hx hb d_Model_layStates_237 (by decide) ?_
                      refine lv_iadd hx hb d_Model_layStates_238 ?_
                      refine z_topi (y := 1) (by decide +kernel) ?_
                      refine va_iast hx hb hK hP hD hS 5 0 rfl rfl (zI.inn hv_1426 (by decide)) d_Model_layStates_239 (fun H locs hP hD hS => ?_)
                      obtain ⟨f_1457, gf_1457, uf_1457, hP, hD⟩ := z_newFu 5 hP hD rfl
                      have hP : va_P G.1 classes [(b18, .inl (G.2 0, 2, .inl b58)), (b20, .inl (G.2 0, 520, .inl b59)), (b23, .inl (G.2 0, 482, .inl y_1303)), (b24, .inl (G.2 0, 2, .inl f_1454)), (b25, .inl (G.2 0, 482, .inl f_1447)), (b26, .inl (G.2 0, 482, .inl f_1457)), (b27, .inl (G.2 0, 482, .inl f_1451)), (b4, .inl (G.2 0, 503, .inl b57)), (b0, .inr (12, [.int b3, .ref b4, .ref b5, .ref b6, .ref b7, .int b8, .ref b9, .int b10, .int b11, .int b12, .int b13, .ref b14, .ref b15, .ref b16, .int b17, .ref b18, .ref b19, .ref b20, .ref b21, .ref b22, .ref b23, .ref b24, .ref b25, .ref b26, .ref b27, .ref b28, .ref b29, .int b30, .ref b31, .ref b32, .int b33, .int b34, .int b35, .int b36, .ref b37, .ref b38, .ref b39, .ref b40, .ref b41, .ref b42, .ref b43, .int b44, .ref b45, .ref b46, .int b47, .ref b48, .ref b49, .ref b50, .ref b51, .ref b52, .int b53, .ref b54, .ref b55, .ref b56])), (b21, .inl (G.2 0, 9640, .inl y_763)), (b22, .inl (G.2 0, 482, .inl y_764))] H := hP
                      have hD := z_tie hP hD rfl
                      refine lv_aload_n hx hb d_Model_layStates_240 rfl (lv_at hl 4 rfl) ?_
                      refine va_get (D := G.1) (ci := 12) (v := .ref b23) (C := R_Model) (T := F_Model) (N := 54) hx hb hts i_Model hown hK hP 8 rfl rfl 20 (by decide) (hts _ q1129) (fun _ h9 => h9) rfl d_Model_layStates_241 ?_
                      refine lv_iload hx hb d_Model_layStates_244 (lv_at hl 3 rfl) ?_
                      refine lv_iload hx hb d_Model_layStates_246 (lv_at hl 1 rfl) ?_
                      refine lv_iadd hx hb d_Model_layStates_248 ?_
                      refine lv_topi (fun v_1458 ev_1458 => ?_)
                      obtain rfl : v_1429 = v_1458 := ev_1429.trans ev_1458.symm
                      refine lv_iload hx hb d_Model_layStates_249 (lv_at hl 0 rfl) ?_
                      refine va_iast hx hb hK hP hD hS 2 0 rfl rfl (zI.inn hv_1429 (by decide)) d_Model_layStates_251 (fun H locs hP hD hS => ?_)
                      obtain ⟨f_1459, hf_1459, gf_1459, uf_1459, hP, hD⟩ := z_newfu 2 hP hD rfl hy_1303 (zI.wk (l' := 0) (h' := 240) hv_1424 (by decide))
                      have hP : va_P G.1 classes [(b18, .inl (G.2 0, 2, .inl b58)), (b20, .inl (G.2 0, 520, .inl b59)), (b23, .inl (G.2 0, 482, .inl f_1459)), (b24, .inl (G.2 0, 2, .inl f_1454)), (b25, .inl (G.2 0, 482, .inl f_1447)), (b26, .inl (G.2 0, 482, .inl f_1457)), (b27, .inl (G.2 0, 482, .inl f_1451)), (b4, .inl (G.2 0, 503, .inl b57)), (b0, .inr (12, [.int b3, .ref b4, .ref b5, .ref b6, .ref b7, .int b8, .ref b9, .int b10, .int b11, .int b12, .int b13, .ref b14, .ref b15, .ref b16, .int b17, .ref b18, .ref b19, .ref b20, .ref b21, .ref b22, .ref b23, .ref b24, .ref b25, .ref b26, .ref b27, .ref b28, .ref b29, .int b30, .ref b31, .ref b32, .int b33, .int b34, .int b35, .int b36, .ref b37, .ref b38, .ref b39, .ref b40, .ref b41, .ref b42, .ref b43, .int b44, .ref b45, .ref b46, .int b47, .ref b48, .ref b49, .ref b50, .ref b51, .ref b52, .int b53, .ref b54, .ref b55, .ref b56])), (b21, .inl (G.2 0, 9640, .inl y_763)), (b22, .inl (G.2 0, 482, .inl y_764))] H := hP
                      have hD := z_tie hP hD rfl
                      obtain ⟨v_1460, ev_1460⟩ : ∃ z : Int32, z = y_1302 + 1 := ⟨_, rfl⟩
                      obtain ⟨qv_1460, hv_1460⟩ := zI_add (l := 1) (h := 241) hv_1316 zc_1 ev_1460 (by decide)
                      rw [li_1] at qv_1460
                      refine lv_iinc (v := v_1460) (lv' := [(6, .int v_1460), (7, .int y_1391), (5, .int 1), (4, .int 241), (0, .ref b0), (1, .int 1), (2, .int b1), (3, .int b2)]) hx hb d_Model_layStates_252 hl (k := 1) rfl (by rw [ev_1460]; rfl) (by decide) rfl (fun ls hl => ?_)
                      refine lv_goto (tgt := 110) hx hb d_Model_layStates_255 (by decide) ?_
                      exact ihk_1301 (v_1460) (f_1459) (f_1454) (f_1447) (f_1457) (f_1451) _ _ _ (zI.wk (l' := 0) (h' := 241) hv_1460 (by decide)) hf_1459 hf_1454 hf_1447 (by rw [gf_1454]; omega) trivial trivial trivial (zm_up qv_1460 hmk_1301 (by decide)) (hP.sub [0, 1, 9, 10, 2, 3, 4, 5, 6, 8, 7] rfl) (hD.sub [0, 1, 9, 10, 2, 3, 4, 5, 6, 8, 7] (by decide) rfl) hS (lv_sub hl [0, 2, 3, 4, 5, 6, 7] rfl)
                  · have _nhc_1432 := hc_1432
                    have ni_1461 := (fa_eq _ _).mp hc_1432
                    rw [li_0] at ni_1461
                    have hv_1462 : zI x_1431 0 0 := zI.eq_l hx_1431 zc_0 hc_1432
                    obtain ⟨v_1463, ev_1463⟩ : ∃ z : Int32, z = y_1391 + 1 := ⟨_, rfl⟩
                    obtain ⟨qv_1463, hv_1463⟩ := zI_add (l := 1) (h := 240) hv_1424 zc_1 ev_1463 (by decide)
                    rw [li_1] at qv_1463
                    refine lv_iinc (v := v_1463) (lv' := [(7, .int v_1463), (6, .int y_1302), (5, .int 1), (4, .int 241), (0, .ref b0), (1, .int 1), (2, .int b1), (3, .int b2)]) hx hb d_Model_layStates_165 hl (k := 0) rfl (by rw [ev_1463]; rfl) (by decide) rfl (fun ls hl => ?_)
                    refine lv_goto (tgt := 129) hx hb d_Model_layStates_168 (by decide) ?_
                    exact ihk_1390 (v_1463) _ _ _ (zI.wk (l' := 0) (h' := 240) hv_1463 (by decide)) (by rw [← ev_1393]; omega) (zm_up qv_1463 hmk_1390 (by decide)) (hP.sub [0, 1, 9, 10, 2, 3, 4, 5, 6, 8, 7] rfl) (hD.sub [0, 1, 9, 10, 2, 3, 4, 5, 6, 8, 7] (by decide) rfl) hS (lv_sub hl [0, 1, 2, 3, 4, 5, 6, 7] rfl)
    · have _nhc_769 := hc_769
      have ni_1464 := (fa_lt _ _).mp (zi_nle hc_769)
      have hv_1465 : zI y_762 0 19 := zI.lt_l hy_762 hx_767 (zi_nle hc_769) (by decide)
      have hv_1466 : zI x_767 1 20 := zI.lt_r hy_762 hx_767 (zi_nle hc_769) (by decide)
      refine lv_iconst (v := 0) hx hb d_Model_layStates_19 (by decide) ?_
      refine lv_istore (lv' := [(6, .int 0), (5, .int y_762), (4, .int 241), (0, .ref b0), (1, .int 1), (2, .int b1), (3, .int b2)]) hx hb d_Model_layStates_20 hl (by decide) rfl (fun ls hl => ?_)
      suffices key : ∀ (k_1496 : Nat) (y_1497 : Int32) (y_1498 : Nat → Int32) (y_1499 : Nat → Int32) (H : Heap) (locs : List Loc) (ls : Array Slot), (zI y_1497 0 13) → (zqa qC y_1499) → (∀ q : Nat, (q : Int) < (b58 (1 : Int32).toNatClampNeg).toInt → (y_1499 (241 + q)).toInt = 0 ∨ (y_1499 (241 + q)).toInt + (q : Int) ≤ 13 * (y_762 : Int32).toInt + (y_1497 : Int32).toInt) → (13 : Int) - y_1497.toInt < (k_1496 : Int) → va_P G.1 classes [(b18, .inl (G.2 0, 2, .inl b58)), (b20, .inl (G.2 0, 520, .inl b59)), (b21, .inl (G.2 0, 9640, .inl y_1498)), (b22, .inl (G.2 0, 482, .inl y_1499)), (b23, .inl (G.2 0, 482, .inl b62)), (b24, .inl (G.2 0, 2, .inl b63)), (b25, .inl (G.2 0, 482, .inl b64)), (b26, .inl (G.2 0, 482, .inl b65)), (b27, .inl (G.2 0, 482, .inl b66)), (b0, .inr (12, [.int b3, .ref b4, .ref b5, .ref b6, .ref b7, .int b8, .ref b9, .int b10, .int b11, .int b12, .int b13, .ref b14, .ref b15, .ref b16, .int b17, .ref b18, .ref b19, .ref b20, .ref b21, .ref b22, .ref b23, .ref b24, .ref b25, .ref b26, .ref b27, .ref b28, .ref b29, .int b30, .ref b31, .ref b32, .int b33, .int b34, .int b35, .int b36, .ref b37, .ref b38, .ref b39, .ref b40, .ref b41, .ref b42, .ref b43, .int b44, .ref b45, .ref b46, .int b47, .ref b48, .ref b49, .ref b50, .ref b51, .ref b52, .int b53, .ref b54, .ref b55, .ref b56])), (b4, .inl (G.2 0, 503, .inl b57))] H → va_D A [(b18, .inl (G.2 0, 2, .inl b58)), (b20, .inl (G.2 0, 520, .inl b59)), (b21, .inl (G.2 0, 9640, .inl y_1498)), (b22, .inl (G.2 0, 482, .inl y_1499)), (b23, .inl (G.2 0, 482, .inl b62)), (b24, .inl (G.2 0, 2, .inl b63)), (b25, .inl (G.2 0, 482, .inl b64)), (b26, .inl (G.2 0, 482, .inl b65)), (b27, .inl (G.2 0, 482, .inl b66)), (b0, .inr (12, [.int b3, .ref b4, .ref b5, .ref b6, .ref b7, .int b8, .ref b9, .int b10, .int b11, .int b12, .int b13, .ref b14, .ref b15, .ref b16, .int b17, .ref b18, .ref b19, .ref b20, .ref b21, .ref b22, .ref b23, .ref b24, .ref b25, .ref b26, .ref b27, .ref b28, .ref b29, .int b30, .ref b31, .ref b32, .int b33, .int b34, .int b35, .int b36, .ref b37, .ref b38, .ref b39, .ref b40, .ref b41, .ref b42, .ref b43, .int b44, .ref b45, .ref b46, .int b47, .ref b48, .ref b49, .ref b50, .ref b51, .ref b52, .int b53, .ref b54, .ref b55, .ref b56])), (b4, .inl (G.2 0, 503, .inl b57))] → va_S A s.heap H locs → lv_has ls 8 [(6, .int y_1497), (5, .int y_762), (4, .int 241), (0, .ref b0), (1, .int 1), (2, .int b1), (3, .int b2)] → W p l e m_s2_Model_layStates s m ([.ref b0, .int 1, .int b1, .int b2] : List Value).toArray below meth c H locs 0 0 (MQ below (zQ G (fun v w => ∃ (e0 : Nat → Int32), ∃ (e1 : Nat → Int32), ∃ (e2 : Nat → Int32), ∃ (e3 : Nat → Int32), ∃ (e4 : Nat → Int32), ∃ (e5 : Nat → Int32), ∃ (e6 : Nat → Int32), v = none ∧ w = [(b0, .inr (12, [.int b3, .ref b4, .ref b5, .ref b6, .ref b7, .int b8, .ref b9, .int b10, .int b11, .int b12, .int b13, .ref b14, .ref b15, .ref b16, .int b17, .ref b18, .ref b19, .ref b20, .ref b21, .ref b22, .ref b23, .ref b24, .ref b25, .ref b26, .ref b27, .ref b28, .ref b29, .int b30, .ref b31, .ref b32, .int b33, .int b34, .int b35, .int b36, .ref b37, .ref b38, .ref b39, .ref b40, .ref b41, .ref b42, .ref b43, .int b44, .ref b45, .ref b46, .int b47, .ref b48, .ref b49, .ref b50, .ref b51, .ref b52, .int b53, .ref b54, .ref b55, .ref b56])), (b4, .inl (G.2 0, 503, .inl b57)), (b18, .inl (G.2 0, 2, .inl b58)), (b20, .inl (G.2 0, 520, .inl b59)), (b21, .inl (G.2 0, 9640, .inl e0)), (b22, .inl (G.2 0, 482, .inl e1)), (b23, .inl (G.2 0, 482, .inl e2)), (b24, .inl (G.2 0, 2, .inl e3)), (b25, .inl (G.2 0, 482, .inl e4)), (b26, .inl (G.2 0, 482, .inl e5)), (b27, .inl (G.2 0, 482, .inl e6))] ∧ (zqa qC e1) ∧ (zR e2 0 240) ∧ (zR e3 0 241) ∧ (zR e4 0 240)) A) ([.ref b0, .int 1, .int b1, .int b2] : List Value).toArray s m_s2_Model_layStates.cells m_s2_Model_layStates.slots A) (F0 m 22 ls []) by
        exact key 14 (0) (y_763) (y_764) _ _ _ (zI.wk (l' := 0) (h' := 13) zc_0 (by decide)) hy_764 (by have _l0 := li_0; intro q hq; have := hli_765 q hq; omega) (zm_upi (zI.wk (l' := 0) (h' := 13) zc_0 (by decide)) (by decide)) hP hD hS (lv_sub hl [0, 1, 2, 3, 4, 5, 6] rfl)
      intro k_1496
      induction k_1496 with
      | zero =>
        intro y_1497 y_1498 y_1499 H locs ls hy_1497 hy_1499 hli_1500 hmk_1496 hP hD hS hl
        exact (zm_up0 hy_1497 hmk_1496).elim
      | succ k_1496 ihk_1496 =>
        intro y_1497 y_1498 y_1499 H locs ls hy_1497 hy_1499 hli_1500 hmk_1496 hP hD hS hl
        refine lv_iload hx hb d_Model_layStates_22 (lv_at hl 0 rfl) ?_
        refine lv_aload_n hx hb d_Model_layStates_24 rfl (lv_at hl 3 rfl) ?_
        refine lv_iload hx hb d_Model_layStates_25 (lv_at hl 1 rfl) ?_
        refine z_callV (index := 203) (As := [.int y_762]) (rest := [.int y_1497]) (wr := [(b18, .inl (G.2 0, 2, .inl b58)), (b20, .inl (G.2 0, 520, .inl b59)), (b21, .inl (G.2 0, 9640, .inl y_1498)), (b22, .inl (G.2 0, 482, .inl y_1499)), (b23, .inl (G.2 0, 482, .inl b62)), (b24, .inl (G.2 0, 2, .inl b63)), (b25, .inl (G.2 0, 482, .inl b64)), (b26, .inl (G.2 0, 482, .inl b65)), (b27, .inl (G.2 0, 482, .inl b66))]) Z (s1_Model_calls l G (b0) (y_762) (b3) (b4) (b5) (b6) (b7) (b8) (b9) (b10) (b11) (b12) (b13) (b14) (b15) (b16) (b17) (b18) (b19) (b20) (b21) (b22) (b23) (b24) (b25) (b26) (b27) (b28) (b29) (b30) (b31) (b32) (b33) (b34) (b35) (b36) (b37) (b38) (b39) (b40) (b41) (b42) (b43) (b44) (b45) (b46) (b47) (b48) (b49) (b50) (b51) (b52) (b53) (b54) (b55) (b56) (b57) hv_1465 hb8 hb10 hb11 hb13 hb17 hb30 hb33 hb44 hb47 hb53 hb57) hl.1 q1352 q1354 qs54 q14 q1355 ⟨by decide, by decide, by show _ = some 1; decide +kernel⟩ ⟨Nat.le_of_ble_eq_true rfl, Nat.le_of_ble_eq_true rfl⟩ ⟨Nat.le_of_ble_eq_true rfl, Nat.le_of_ble_eq_true rfl⟩ rfl (Nat.le_of_ble_eq_true rfl) d_Model_layStates_27 hP hD hS hA 9 12 rfl rfl rfl [9, 10] [0, 1, 2, 3, 4, 5, 6, 7, 8] rfl rfl rfl rfl (by decide) (fun v w1 H locs hw_1501 hP hD hS => ?_)
        obtain ⟨x_1502, rfl, rfl, hx_1502, hfx_1503⟩ := hw_1501
        have hP : va_P G.1 classes [(b18, .inl (G.2 0, 2, .inl b58)), (b20, .inl (G.2 0, 520, .inl b59)), (b21, .inl (G.2 0, 9640, .inl y_1498)), (b22, .inl (G.2 0, 482, .inl y_1499)), (b23, .inl (G.2 0, 482, .inl b62)), (b24, .inl (G.2 0, 2, .inl b63)), (b25, .inl (G.2 0, 482, .inl b64)), (b26, .inl (G.2 0, 482, .inl b65)), (b27, .inl (G.2 0, 482, .inl b66)), (b0, .inr (12, [.int b3, .ref b4, .ref b5, .ref b6, .ref b7, .int b8, .ref b9, .int b10, .int b11, .int b12, .int b13, .ref b14, .ref b15, .ref b16, .int b17, .ref b18, .ref b19, .ref b20, .ref b21, .ref b22, .ref b23, .ref b24, .ref b25, .ref b26, .ref b27, .ref b28, .ref b29, .int b30, .ref b31, .ref b32, .int b33, .int b34, .int b35, .int b36, .ref b37, .ref b38, .ref b39, .ref b40, .ref b41, .ref b42, .ref b43, .int b44, .ref b45, .ref b46, .int b47, .ref b48, .ref b49, .ref b50, .ref b51, .ref b52, .int b53, .ref b54, .ref b55, .ref b56])), (b4, .inl (G.2 0, 503, .inl b57))] H := hP
        have hD := z_tie hP hD rfl
        refine W.widen (k := 0) (n := 0) (Nat.le_of_ble_eq_true rfl) (Nat.le_of_ble_eq_true rfl) ?_
        refine lv_icmp_gt (tgt := 70) hx hb d_Model_layStates_30 (by decide) (fun hc_1504 => ?_) (fun hc_1504 => ?_)
        · have _nhc_1504 := hc_1504
          have ni_1505 := (fa_lt _ _).mp hc_1504
          have hv_1506 : zI y_1497 1 13 := zI.lt_r hx_1502 hy_1497 hc_1504 (by decide)
          obtain ⟨v_1507, ev_1507⟩ : ∃ z : Int32, z = y_762 + 1 := ⟨_, rfl⟩
          obtain ⟨qv_1507, hv_1507⟩ := zI_add (l := 1) (h := 20) hv_1465 zc_1 ev_1507 (by decide)
          rw [li_1] at qv_1507
          refine lv_iinc (v := v_1507) (lv' := [(5, .int v_1507), (6, .int y_1497), (4, .int 241), (0, .ref b0), (1, .int 1), (2, .int b1), (3, .int b2)]) hx hb d_Model_layStates_70 hl (k := 1) rfl (by rw [ev_1507]; rfl) (by decide) rfl (fun ls hl => ?_)
          refine lv_goto (tgt := 10) hx hb d_Model_layStates_73 (by decide) ?_
          exact ihk_761 (v_1507) (y_1498) (y_1499) _ _ _ (zI.wk (l' := 0) (h' := 20) hv_1507 (by decide)) hy_1499 (by intro q hq; have := hli_1500 q hq; omega) (zm_up qv_1507 hmk_761 (by decide)) (hP.sub [9, 10, 0, 1, 2, 3, 4, 5, 6, 7, 8] rfl) (hD.sub [9, 10, 0, 1, 2, 3, 4, 5, 6, 7, 8] (by decide) rfl) hS (lv_sub hl [0, 2, 3, 4, 5, 6] rfl)
        · have _nhc_1504 := hc_1504
          have ni_1508 := (fa_le _ _).mp (zi_nlt hc_1504)
          have hv_1509 : zI y_1497 0 12 := zI.le_l hy_1497 hx_1502 (zi_nlt hc_1504) (by decide)
          refine lv_iload hx hb d_Model_layStates_33 (lv_at hl 1 rfl) ?_
          refine lv_iload_n hx hb d_Model_layStates_35 rfl (lv_at hl 6 rfl) ?_
          refine lv_icmp_eq (tgt := 70) hx hb d_Model_layStates_36 (by decide) (fun hc_1510 => ?_) (fun hc_1510 => ?_)
          · have _nhc_1510 := hc_1510
            have ni_1511 := (fa_eq _ _).mp hc_1510
            have hv_1512 : zI b2 0 19 := zI.eq_l hb2 hv_1465 hc_1510.symm
            obtain ⟨v_1513, ev_1513⟩ : ∃ z : Int32, z = y_762 + 1 := ⟨_, rfl⟩
            obtain ⟨qv_1513, hv_1513⟩ := zI_add (l := 1) (h := 20) hv_1465 zc_1 ev_1513 (by decide)
            rw [li_1] at qv_1513
            refine lv_iinc (v := v_1513) (lv' := [(5, .int v_1513), (6, .int y_1497), (4, .int 241), (0, .ref b0), (1, .int 1), (2, .int b1), (3, .int b2)]) hx hb d_Model_layStates_70 hl (k := 1) rfl (by rw [ev_1513]; rfl) (by decide) rfl (fun ls hl => ?_)
            refine lv_goto (tgt := 10) hx hb d_Model_layStates_73 (by decide) ?_
            exact ihk_761 (v_1513) (y_1498) (y_1499) _ _ _ (zI.wk (l' := 0) (h' := 20) hv_1513 (by decide)) hy_1499 (by intro q hq; have := hli_1500 q hq; omega) (zm_up qv_1513 hmk_761 (by decide)) (hP.sub [9, 10, 0, 1, 2, 3, 4, 5, 6, 7, 8] rfl) (hD.sub [9, 10, 0, 1, 2, 3, 4, 5, 6, 7, 8] (by decide) rfl) hS (lv_sub hl [0, 2, 3, 4, 5, 6] rfl)
          · have _nhc_1510 := hc_1510
            have ni_1514 : ¬ (y_762 : Int32).toInt = (b2 : Int32).toInt := fun z => hc_1510 ((fa_eq _ _).mpr z)
            refine lv_aload_n hx hb d_Model_layStates_39 rfl (lv_at hl 3 rfl) ?_
            refine lv_iload hx hb d_Model_layStates_40 (lv_at hl 2 rfl) ?_
            refine lv_aload_n hx hb d_Model_layStates_42 rfl (lv_at hl 3 rfl) ?_
            refine lv_iload_n hx hb d_Model_layStates_43 rfl (lv_at hl 4 rfl) ?_
            refine lv_iload hx hb d_Model_layStates_44 (lv_at hl 1 rfl) ?_
            refine lv_iload hx hb d_Model_layStates_46 (lv_at hl 0 rfl) ?_
            refine z_callV (index := 211) (As := [.int 1, .int y_762, .int y_1497]) (rest := [.int 241, .ref b0]) (wr := [(b18, .inl (G.2 0, 2, .inl b58)), (b21, .inl (G.2 0, 9640, .inl y_1498)), (b22, .inl (G.2 0, 482, .inl y_1499)), (b23, .inl (G.2 0, 482, .inl b62)), (b24, .inl (G.2 0, 2, .inl b63)), (b25, .inl (G.2 0, 482, .inl b64)), (b26, .inl (G.2 0, 482, .inl b65)), (b27, .inl (G.2 0, 482, .inl b66)), (b4, .inl (G.2 0, 503, .inl b57))]) Z (s2_Model_pathOf l G (b0) (y_762) (y_1497) (b3) (b4) (b5) (b6) (b7) (b8) (b9) (b10) (b11) (b12) (b13) (b14) (b15) (b16) (b17) (b18) (b19) (b20) (b21) (b22) (b23) (b24) (b25) (b26) (b27) (b28) (b29) (b30) (b31) (b32) (b33) (b34) (b35) (b36) (b37) (b38) (b39) (b40) (b41) (b42) (b43) (b44) (b45) (b46) (b47) (b48) (b49) (b50) (b51) (b52) (b53) (b54) (b55) (b56) (b59) hv_1465 hv_1509 hb8 hb10 hb11 hb13 hb17 hb30 hb33 hb44 hb47 hb53 hb59) hl.1 q1380 q1382 qs61 q14 q1383 ⟨by decide, by decide, by show _ = some 3; decide +kernel⟩ ⟨Nat.le_of_ble_eq_true rfl, Nat.le_of_ble_eq_true rfl⟩ ⟨Nat.le_of_ble_eq_true rfl, Nat.le_of_ble_eq_true rfl⟩ rfl (Nat.le_of_ble_eq_true rfl) d_Model_layStates_48 hP hD hS hA 9 12 rfl rfl rfl [9, 1] [0, 2, 3, 4, 5, 6, 7, 8, 10] rfl rfl rfl rfl (by decide) (fun v w1 H locs hw_1515 hP hD hS => ?_)
            obtain ⟨x_1516, rfl, rfl, hx_1516, hfx_1517, hfx_1518⟩ := hw_1515
            have hP : va_P G.1 classes [(b18, .inl (G.2 0, 2, .inl b58)), (b21, .inl (G.2 0, 9640, .inl y_1498)), (b22, .inl (G.2 0, 482, .inl y_1499)), (b23, .inl (G.2 0, 482, .inl b62)), (b24, .inl (G.2 0, 2, .inl b63)), (b25, .inl (G.2 0, 482, .inl b64)), (b26, .inl (G.2 0, 482, .inl b65)), (b27, .inl (G.2 0, 482, .inl b66)), (b4, .inl (G.2 0, 503, .inl b57)), (b0, .inr (12, [.int b3, .ref b4, .ref b5, .ref b6, .ref b7, .int b8, .ref b9, .int b10, .int b11, .int b12, .int b13, .ref b14, .ref b15, .ref b16, .int b17, .ref b18, .ref b19, .ref b20, .ref b21, .ref b22, .ref b23, .ref b24, .ref b25, .ref b26, .ref b27, .ref b28, .ref b29, .int b30, .ref b31, .ref b32, .int b33, .int b34, .int b35, .int b36, .ref b37, .ref b38, .ref b39, .ref b40, .ref b41, .ref b42, .ref b43, .int b44, .ref b45, .ref b46, .int b47, .ref b48, .ref b49, .ref b50, .ref b51, .ref b52, .int b53, .ref b54, .ref b55, .ref b56])), (b20, .inl (G.2 0, 520, .inl b59))] H := hP
            have hD := z_tie hP hD rfl
            refine W.widen (k := 0) (n := 0) (Nat.le_of_ble_eq_true rfl) (Nat.le_of_ble_eq_true rfl) ?_
            refine lv_iadd hx hb d_Model_layStates_51 ?_
            refine lv_topi (fun v_1519 ev_1519 => ?_)
            obtain ⟨qv_1519, hv_1519⟩ := zI_add (l := 241) (h := 481) zc_241 hx_1516 ev_1519 (by decide)
            rw [li_241] at qv_1519
            refine lv_aload_n hx hb d_Model_layStates_52 rfl (lv_at hl 3 rfl) ?_
            refine lv_iload hx hb d_Model_layStates_53 (lv_at hl 1 rfl) ?_
            refine lv_iload hx hb d_Model_layStates_55 (lv_at hl 0 rfl) ?_
            refine lv_iload_n hx hb d_Model_layStates_57 rfl (lv_at hl 5 rfl) ?_
            refine z_callV (index := 214) (As := [.int y_762, .int y_1497, .int b1]) (rest := [.int v_1519, .ref b0]) (wr := [(b18, .inl (G.2 0, 2, .inl b58)), (b21, .inl (G.2 0, 9640, .inl y_1498)), (b22, .inl (G.2 0, 482, .inl y_1499)), (b23, .inl (G.2 0, 482, .inl b62)), (b24, .inl (G.2 0, 2, .inl b63)), (b25, .inl (G.2 0, 482, .inl b64)), (b26, .inl (G.2 0, 482, .inl b65)), (b27, .inl (G.2 0, 482, .inl b66)), (b20, .inl (G.2 0, 520, .inl b59))]) Z (s1_Model_rowBehind l G (b0) (y_762) (y_1497) (b1) (b3) (b4) (b5) (b6) (b7) (b8) (b9) (b10) (b11) (b12) (b13) (b14) (b15) (b16) (b17) (b18) (b19) (b20) (b21) (b22) (b23) (b24) (b25) (b26) (b27) (b28) (b29) (b30) (b31) (b32) (b33) (b34) (b35) (b36) (b37) (b38) (b39) (b40) (b41) (b42) (b43) (b44) (b45) (b46) (b47) (b48) (b49) (b50) (b51) (b52) (b53) (b54) (b55) (b56) (b57) hv_1465 hv_1509 hb1 hb8 hb10 hb11 hb13 hb17 hb30 hb33 hb44 hb47 hb53 hb57) hl.1 q1384 q1386 qs62 q14 q1387 ⟨by decide, by decide, by show _ = some 3; decide +kernel⟩ ⟨Nat.le_of_ble_eq_true rfl, Nat.le_of_ble_eq_true rfl⟩ ⟨Nat.le_of_ble_eq_true rfl, Nat.le_of_ble_eq_true rfl⟩ rfl (Nat.le_of_ble_eq_true rfl) d_Model_layStates_58 hP hD hS hA 9 12 rfl rfl rfl [9, 8] [0, 1, 2, 3, 4, 5, 6, 7, 10] rfl rfl rfl rfl (by decide) (fun v w1 H locs hw_1520 hP hD hS => ?_)
            obtain ⟨x_1521, rfl, rfl⟩ := hw_1520
            have hP : va_P G.1 classes [(b18, .inl (G.2 0, 2, .inl b58)), (b21, .inl (G.2 0, 9640, .inl y_1498)), (b22, .inl (G.2 0, 482, .inl y_1499)), (b23, .inl (G.2 0, 482, .inl b62)), (b24, .inl (G.2 0, 2, .inl b63)), (b25, .inl (G.2 0, 482, .inl b64)), (b26, .inl (G.2 0, 482, .inl b65)), (b27, .inl (G.2 0, 482, .inl b66)), (b20, .inl (G.2 0, 520, .inl b59)), (b0, .inr (12, [.int b3, .ref b4, .ref b5, .ref b6, .ref b7, .int b8, .ref b9, .int b10, .int b11, .int b12, .int b13, .ref b14, .ref b15, .ref b16, .int b17, .ref b18, .ref b19, .ref b20, .ref b21, .ref b22, .ref b23, .ref b24, .ref b25, .ref b26, .ref b27, .ref b28, .ref b29, .int b30, .ref b31, .ref b32, .int b33, .int b34, .int b35, .int b36, .ref b37, .ref b38, .ref b39, .ref b40, .ref b41, .ref b42, .ref b43, .int b44, .ref b45, .ref b46, .int b47, .ref b48, .ref b49, .ref b50, .ref b51, .ref b52, .int b53, .ref b54, .ref b55, .ref b56])), (b4, .inl (G.2 0, 503, .inl b57))] H := hP
            have hD := z_tie hP hD rfl
            refine W.widen (k := 0) (n := 0) (Nat.le_of_ble_eq_true rfl) (Nat.le_of_ble_eq_true rfl) ?_
            refine z_callV (index := 217) (As := [.int v_1519, .int x_1521]) (rest := []) (wr := [(b18, .inl (G.2 0, 2, .inl b58)), (b23, .inl (G.2 0, 482, .inl b62)), (b24, .inl (G.2 0, 2, .inl b63)), (b25, .inl (G.2 0, 482, .inl b64)), (b26, .inl (G.2 0, 482, .inl b65)), (b27, .inl (G.2 0, 482, .inl b66)), (b20, .inl (G.2 0, 520, .inl b59)), (b4, .inl (G.2 0, 503, .inl b57))]) Z (s1_Model_addFollow l G (b0) (v_1519) (x_1521) (b3) (b4) (b5) (b6) (b7) (b8) (b9) (b10) (b11) (b12) (b13) (b14) (b15) (b16) (b17) (b18) (b19) (b20) (b21) (b22) (b23) (b24) (b25) (b26) (b27) (b28) (b29) (b30) (b31) (b32) (b33) (b34) (b35) (b36) (b37) (b38) (b39) (b40) (b41) (b42) (b43) (b44) (b45) (b46) (b47) (b48) (b49) (b50) (b51) (b52) (b53) (b54) (b55) (b56) (y_1498) (y_1499) (zI.wk (l' := 0) (h' := 481) hv_1519 (by decide)) hb8 hb10 hb11 hb13 hb17 hb30 hb33 hb44 hb47 hb53 hy_1499 (by have p9 := z_pl hv_1519 (by decide); have p7 := z_pl hx_1516 (by decide); have p8 : x_1516.toInt < (b58 (1 : Int32).toNatClampNeg).toInt := (by rw [hfx_1517]; exact htm _ _ (by rw [← hfx_768]; omega) (by omega) (by rw [← hfx_1503]; omega)); have p6 : v_1519.toNatClampNeg = 241 + x_1516.toNatClampNeg := (by omega); have := hli_1500 x_1516.toNatClampNeg (by omega); rw [← p6] at this; omega)) hl.1 q1388 q1390 qs63 q14 q1391 ⟨by decide, by decide, by show _ = some 2; decide +kernel⟩ ⟨Nat.le_of_ble_eq_true rfl, Nat.le_of_ble_eq_true rfl⟩ ⟨Nat.le_of_ble_eq_true rfl, Nat.le_of_ble_eq_true rfl⟩ rfl (Nat.le_of_ble_eq_true rfl) d_Model_layStates_61 hP hD hS hA 9 12 rfl rfl rfl [9, 1, 2] [0, 3, 4, 5, 6, 7, 8, 10] rfl rfl rfl rfl (by decide) (fun v w1 H locs hw_1522 hP hD hS => ?_)
            obtain ⟨f_1523, f_1524, rfl, rfl, hf_1524, hfx_1525⟩ := hw_1522
            have hP : va_P G.1 classes [(b18, .inl (G.2 0, 2, .inl b58)), (b23, .inl (G.2 0, 482, .inl b62)), (b24, .inl (G.2 0, 2, .inl b63)), (b25, .inl (G.2 0, 482, .inl b64)), (b26, .inl (G.2 0, 482, .inl b65)), (b27, .inl (G.2 0, 482, .inl b66)), (b20, .inl (G.2 0, 520, .inl b59)), (b4, .inl (G.2 0, 503, .inl b57)), (b0, .inr (12, [.int b3, .ref b4, .ref b5, .ref b6, .ref b7, .int b8, .ref b9, .int b10, .int b11, .int b12, .int b13, .ref b14, .ref b15, .ref b16, .int b17, .ref b18, .ref b19, .ref b20, .ref b21, .ref b22, .ref b23, .ref b24, .ref b25, .ref b26, .ref b27, .ref b28, .ref b29, .int b30, .ref b31, .ref b32, .int b33, .int b34, .int b35, .int b36, .ref b37, .ref b38, .ref b39, .ref b40, .ref b41, .ref b42, .ref b43, .int b44, .ref b45, .ref b46, .int b47, .ref b48, .ref b49, .ref b50, .ref b51, .ref b52, .int b53, .ref b54, .ref b55, .ref b56])), (b21, .inl (G.2 0, 9640, .inl f_1523)), (b22, .inl (G.2 0, 482, .inl f_1524))] H := hP
            have hD := z_tie hP hD rfl
            refine W.widen (k := 0) (n := 0) (Nat.le_of_ble_eq_true rfl) (Nat.le_of_ble_eq_true rfl) ?_
            obtain ⟨v_1526, ev_1526⟩ : ∃ z : Int32, z = y_1497 + 1 := ⟨_, rfl⟩
            obtain ⟨qv_1526, hv_1526⟩ := zI_add (l := 1) (h := 13) hv_1509 zc_1 ev_1526 (by decide)
            rw [li_1] at qv_1526
            refine lv_iinc (v := v_1526) (lv' := [(6, .int v_1526), (5, .int y_762), (4, .int 241), (0, .ref b0), (1, .int 1), (2, .int b1), (3, .int b2)]) hx hb d_Model_layStates_64 hl (k := 0) rfl (by rw [ev_1526]; rfl) (by decide) rfl (fun ls hl => ?_)
            refine lv_goto (tgt := 22) hx hb d_Model_layStates_67 (by decide) ?_
            exact ihk_1496 (v_1526) (f_1523) (f_1524) _ _ _ (zI.wk (l' := 0) (h' := 13) hv_1526 (by decide)) hf_1524 (by have _l0 := li_0; have _l1 := li_1; have p9 := z_pl hv_1519 (by decide); intro q hq; have _a := hli_1500 q hq; have _b := hfx_1518; rcases hfx_1525 (241 + q) with h | ⟨h, h2⟩ <;> omega) (zm_up qv_1526 hmk_1496 (by decide)) (hP.sub [0, 6, 9, 10, 1, 2, 3, 4, 5, 8, 7] rfl) (hD.sub [0, 6, 9, 10, 1, 2, 3, 4, 5, 8, 7] (by decide) rfl) hS (lv_sub hl [0, 1, 2, 3, 4, 5, 6] rfl)
