theorem d_Model_cover_0 : decode prog_14_method_57_code 0 = .ok (.aload_n 0, 1) := by decide +kernel
theorem d_Model_cover_1 : decode prog_14_method_57_code 1 = .ok (.iconst 0, 1) := by decide +kernel
theorem d_Model_cover_2 : decode prog_14_method_57_code 2 = .ok (.putfield 1, 3) := by decide +kernel
theorem d_Model_cover_5 : decode prog_14_method_57_code 5 = .ok (.iload_n 1, 1) := by decide +kernel
theorem d_Model_cover_6 : decode prog_14_method_57_code 6 = .ok (.i2l, 1) := by decide +kernel
theorem d_Model_cover_7 : decode prog_14_method_57_code 7 = .ok (.lconst 0, 1) := by decide +kernel
theorem d_Model_cover_8 : decode prog_14_method_57_code 8 = .ok (.lconst 1, 1) := by decide +kernel
theorem d_Model_cover_9 : decode prog_14_method_57_code 9 = .ok (.invokestatic 138, 3) := by decide +kernel
theorem d_Model_cover_12 : decode prog_14_method_57_code 12 = .ok (.ifCond .ne 5, 3) := by decide +kernel
theorem d_Model_cover_15 : decode prog_14_method_57_code 15 = .ok (.iconst (-1), 1) := by decide +kernel
theorem d_Model_cover_16 : decode prog_14_method_57_code 16 = .ok (.ireturn, 1) := by decide +kernel
theorem d_Model_cover_17 : decode prog_14_method_57_code 17 = .ok (.aload_n 0, 1) := by decide +kernel
theorem d_Model_cover_18 : decode prog_14_method_57_code 18 = .ok (.invokevirtual 254, 3) := by decide +kernel
theorem d_Model_cover_21 : decode prog_14_method_57_code 21 = .ok (.aload_n 0, 1) := by decide +kernel
theorem d_Model_cover_22 : decode prog_14_method_57_code 22 = .ok (.invokevirtual 305, 3) := by decide +kernel
theorem d_Model_layGoes_0 : decode prog_14_method_55_code 0 = .ok (.iconst 0, 1) := by decide +kernel
theorem d_Model_layGoes_1 : decode prog_14_method_55_code 1 = .ok (.istore_n 1, 1) := by decide +kernel
theorem d_Model_layGoes_2 : decode prog_14_method_55_code 2 = .ok (.iload_n 1, 1) := by decide +kernel
theorem d_Model_layGoes_3 : decode prog_14_method_55_code 3 = .ok (.bipush 80, 2) := by decide +kernel
theorem d_Model_layGoes_5 : decode prog_14_method_55_code 5 = .ok (.if_icmp .ge 16, 3) := by decide +kernel
theorem d_Model_layGoes_8 : decode prog_14_method_55_code 8 = .ok (.aload_n 0, 1) := by decide +kernel
theorem d_Model_layGoes_9 : decode prog_14_method_55_code 9 = .ok (.getfield 89, 3) := by decide +kernel
theorem d_Model_layGoes_12 : decode prog_14_method_55_code 12 = .ok (.iload_n 1, 1) := by decide +kernel
theorem d_Model_layGoes_13 : decode prog_14_method_55_code 13 = .ok (.lconst 0, 1) := by decide +kernel
theorem d_Model_layGoes_14 : decode prog_14_method_55_code 14 = .ok (.lastore, 1) := by decide +kernel
theorem d_Model_layGoes_15 : decode prog_14_method_55_code 15 = .ok (.iinc 1 1, 3) := by decide +kernel
theorem d_Model_layGoes_18 : decode prog_14_method_55_code 18 = .ok (.goto (-16), 3) := by decide +kernel
theorem d_Model_layGoes_21 : decode prog_14_method_55_code 21 = .ok (.iconst 0, 1) := by decide +kernel
theorem d_Model_layGoes_22 : decode prog_14_method_55_code 22 = .ok (.istore_n 1, 1) := by decide +kernel
theorem d_Model_layGoes_23 : decode prog_14_method_55_code 23 = .ok (.iload_n 1, 1) := by decide +kernel
theorem d_Model_layGoes_24 : decode prog_14_method_55_code 24 = .ok (.aload_n 0, 1) := by decide +kernel
theorem d_Model_layGoes_25 : decode prog_14_method_55_code 25 = .ok (.invokevirtual 134, 3) := by decide +kernel
theorem d_Model_layGoes_28 : decode prog_14_method_55_code 28 = .ok (.if_icmp .ge 76, 3) := by decide +kernel
theorem d_Model_layGoes_104 : decode prog_14_method_55_code 104 = .ok (.iconst 0, 1) := by decide +kernel
theorem d_Model_layGoes_105 : decode prog_14_method_55_code 105 = .ok (.istore_n 1, 1) := by decide +kernel
theorem d_Model_layGoes_106 : decode prog_14_method_55_code 106 = .ok (.iload_n 1, 1) := by decide +kernel
theorem d_Model_layGoes_107 : decode prog_14_method_55_code 107 = .ok (.sipush 4096, 3) := by decide +kernel
theorem d_Model_layGoes_110 : decode prog_14_method_55_code 110 = .ok (.if_icmp .ge 23, 3) := by decide +kernel
theorem d_Model_layGoes_113 : decode prog_14_method_55_code 113 = .ok (.aload_n 0, 1) := by decide +kernel
theorem d_Model_layGoes_114 : decode prog_14_method_55_code 114 = .ok (.getfield 83, 3) := by decide +kernel
theorem d_Model_layGoes_117 : decode prog_14_method_55_code 117 = .ok (.iload_n 1, 1) := by decide +kernel
theorem d_Model_layGoes_118 : decode prog_14_method_55_code 118 = .ok (.lconst 0, 1) := by decide +kernel
theorem d_Model_layGoes_119 : decode prog_14_method_55_code 119 = .ok (.lastore, 1) := by decide +kernel
theorem d_Model_layGoes_120 : decode prog_14_method_55_code 120 = .ok (.aload_n 0, 1) := by decide +kernel
theorem d_Model_layGoes_121 : decode prog_14_method_55_code 121 = .ok (.getfield 86, 3) := by decide +kernel
theorem d_Model_layGoes_124 : decode prog_14_method_55_code 124 = .ok (.iload_n 1, 1) := by decide +kernel
theorem d_Model_layGoes_125 : decode prog_14_method_55_code 125 = .ok (.lconst 0, 1) := by decide +kernel
theorem d_Model_layGoes_126 : decode prog_14_method_55_code 126 = .ok (.lastore, 1) := by decide +kernel
theorem d_Model_layGoes_127 : decode prog_14_method_55_code 127 = .ok (.iinc 1 1, 3) := by decide +kernel
theorem d_Model_layGoes_130 : decode prog_14_method_55_code 130 = .ok (.goto (-24), 3) := by decide +kernel
theorem d_Model_layGoes_133 : decode prog_14_method_55_code 133 = .ok (.iconst 1, 1) := by decide +kernel
theorem d_Model_layGoes_134 : decode prog_14_method_55_code 134 = .ok (.istore_n 1, 1) := by decide +kernel
theorem d_Model_layGoes_135 : decode prog_14_method_55_code 135 = .ok (.iload_n 1, 1) := by decide +kernel
theorem d_Model_layGoes_136 : decode prog_14_method_55_code 136 = .ok (.sipush 1024, 3) := by decide +kernel
theorem d_Model_layGoes_139 : decode prog_14_method_55_code 139 = .ok (.if_icmp .ge 117, 3) := by decide +kernel
theorem d_Model_layGoes_142 : decode prog_14_method_55_code 142 = .ok (.iconst 0, 1) := by decide +kernel
theorem d_Model_layGoes_143 : decode prog_14_method_55_code 143 = .ok (.istore_n 2, 1) := by decide +kernel
theorem d_Model_layGoes_144 : decode prog_14_method_55_code 144 = .ok (.iload_n 1, 1) := by decide +kernel
theorem d_Model_layGoes_145 : decode prog_14_method_55_code 145 = .ok (.iload_n 2, 1) := by decide +kernel
theorem d_Model_layGoes_146 : decode prog_14_method_55_code 146 = .ok (.ishr, 1) := by decide +kernel
theorem d_Model_layGoes_147 : decode prog_14_method_55_code 147 = .ok (.iconst 1, 1) := by decide +kernel
theorem d_Model_layGoes_148 : decode prog_14_method_55_code 148 = .ok (.iand, 1) := by decide +kernel
theorem d_Model_layGoes_149 : decode prog_14_method_55_code 149 = .ok (.ifCond .ne 9, 3) := by decide +kernel
theorem d_Model_layGoes_152 : decode prog_14_method_55_code 152 = .ok (.iinc 2 1, 3) := by decide +kernel
theorem d_Model_layGoes_155 : decode prog_14_method_55_code 155 = .ok (.goto (-11), 3) := by decide +kernel
theorem d_Model_layGoes_158 : decode prog_14_method_55_code 158 = .ok (.iload_n 1, 1) := by decide +kernel
theorem d_Model_layGoes_159 : decode prog_14_method_55_code 159 = .ok (.iload_n 1, 1) := by decide +kernel
theorem d_Model_layGoes_160 : decode prog_14_method_55_code 160 = .ok (.iconst 1, 1) := by decide +kernel
theorem d_Model_layGoes_161 : decode prog_14_method_55_code 161 = .ok (.isub, 1) := by decide +kernel
theorem d_Model_layGoes_162 : decode prog_14_method_55_code 162 = .ok (.iand, 1) := by decide +kernel
theorem d_Model_layGoes_163 : decode prog_14_method_55_code 163 = .ok (.istore_n 3, 1) := by decide +kernel
theorem d_Model_layGoes_164 : decode prog_14_method_55_code 164 = .ok (.iconst 0, 1) := by decide +kernel
theorem d_Model_layGoes_165 : decode prog_14_method_55_code 165 = .ok (.istore 4, 2) := by decide +kernel
theorem d_Model_layGoes_167 : decode prog_14_method_55_code 167 = .ok (.iload 4, 2) := by decide +kernel
theorem d_Model_layGoes_169 : decode prog_14_method_55_code 169 = .ok (.iconst 4, 1) := by decide +kernel
theorem d_Model_layGoes_170 : decode prog_14_method_55_code 170 = .ok (.if_icmp .ge 80, 3) := by decide +kernel
theorem d_Model_layGoes_173 : decode prog_14_method_55_code 173 = .ok (.aload_n 0, 1) := by decide +kernel
theorem d_Model_layGoes_174 : decode prog_14_method_55_code 174 = .ok (.getfield 83, 3) := by decide +kernel
theorem d_Model_layGoes_177 : decode prog_14_method_55_code 177 = .ok (.iconst 4, 1) := by decide +kernel
theorem d_Model_layGoes_178 : decode prog_14_method_55_code 178 = .ok (.iload_n 1, 1) := by decide +kernel
theorem d_Model_layGoes_179 : decode prog_14_method_55_code 179 = .ok (.imul, 1) := by decide +kernel
theorem d_Model_layGoes_180 : decode prog_14_method_55_code 180 = .ok (.iload 4, 2) := by decide +kernel
theorem d_Model_layGoes_182 : decode prog_14_method_55_code 182 = .ok (.iadd, 1) := by decide +kernel
theorem d_Model_layGoes_183 : decode prog_14_method_55_code 183 = .ok (.aload_n 0, 1) := by decide +kernel
theorem d_Model_layGoes_184 : decode prog_14_method_55_code 184 = .ok (.getfield 83, 3) := by decide +kernel
theorem d_Model_layGoes_187 : decode prog_14_method_55_code 187 = .ok (.iconst 4, 1) := by decide +kernel
theorem d_Model_layGoes_188 : decode prog_14_method_55_code 188 = .ok (.iload_n 3, 1) := by decide +kernel
theorem d_Model_layGoes_189 : decode prog_14_method_55_code 189 = .ok (.imul, 1) := by decide +kernel
theorem d_Model_layGoes_190 : decode prog_14_method_55_code 190 = .ok (.iload 4, 2) := by decide +kernel
theorem d_Model_layGoes_192 : decode prog_14_method_55_code 192 = .ok (.iadd, 1) := by decide +kernel
theorem d_Model_layGoes_193 : decode prog_14_method_55_code 193 = .ok (.laload, 1) := by decide +kernel
theorem d_Model_layGoes_194 : decode prog_14_method_55_code 194 = .ok (.aload_n 0, 1) := by decide +kernel
theorem d_Model_layGoes_195 : decode prog_14_method_55_code 195 = .ok (.getfield 89, 3) := by decide +kernel
theorem d_Model_layGoes_198 : decode prog_14_method_55_code 198 = .ok (.iconst 4, 1) := by decide +kernel
theorem d_Model_layGoes_199 : decode prog_14_method_55_code 199 = .ok (.iload_n 2, 1) := by decide +kernel
theorem d_Model_layGoes_200 : decode prog_14_method_55_code 200 = .ok (.imul, 1) := by decide +kernel
theorem d_Model_layGoes_201 : decode prog_14_method_55_code 201 = .ok (.iload 4, 2) := by decide +kernel
theorem d_Model_layGoes_203 : decode prog_14_method_55_code 203 = .ok (.iadd, 1) := by decide +kernel
theorem d_Model_layGoes_204 : decode prog_14_method_55_code 204 = .ok (.laload, 1) := by decide +kernel
theorem d_Model_layGoes_205 : decode prog_14_method_55_code 205 = .ok (.lor, 1) := by decide +kernel
theorem d_Model_layGoes_206 : decode prog_14_method_55_code 206 = .ok (.lastore, 1) := by decide +kernel
theorem d_Model_layGoes_207 : decode prog_14_method_55_code 207 = .ok (.aload_n 0, 1) := by decide +kernel
theorem d_Model_layGoes_208 : decode prog_14_method_55_code 208 = .ok (.getfield 86, 3) := by decide +kernel
theorem d_Model_layGoes_211 : decode prog_14_method_55_code 211 = .ok (.iconst 4, 1) := by decide +kernel
theorem d_Model_layGoes_212 : decode prog_14_method_55_code 212 = .ok (.iload_n 1, 1) := by decide +kernel
theorem d_Model_layGoes_213 : decode prog_14_method_55_code 213 = .ok (.imul, 1) := by decide +kernel
theorem d_Model_layGoes_214 : decode prog_14_method_55_code 214 = .ok (.iload 4, 2) := by decide +kernel
theorem d_Model_layGoes_216 : decode prog_14_method_55_code 216 = .ok (.iadd, 1) := by decide +kernel
theorem d_Model_layGoes_217 : decode prog_14_method_55_code 217 = .ok (.aload_n 0, 1) := by decide +kernel
theorem d_Model_layGoes_218 : decode prog_14_method_55_code 218 = .ok (.getfield 86, 3) := by decide +kernel
theorem d_Model_layGoes_221 : decode prog_14_method_55_code 221 = .ok (.iconst 4, 1) := by decide +kernel
theorem d_Model_layGoes_222 : decode prog_14_method_55_code 222 = .ok (.iload_n 3, 1) := by decide +kernel
theorem d_Model_layGoes_223 : decode prog_14_method_55_code 223 = .ok (.imul, 1) := by decide +kernel
theorem d_Model_layGoes_224 : decode prog_14_method_55_code 224 = .ok (.iload 4, 2) := by decide +kernel
theorem d_Model_layGoes_226 : decode prog_14_method_55_code 226 = .ok (.iadd, 1) := by decide +kernel
theorem d_Model_layGoes_227 : decode prog_14_method_55_code 227 = .ok (.laload, 1) := by decide +kernel
theorem d_Model_layGoes_228 : decode prog_14_method_55_code 228 = .ok (.aload_n 0, 1) := by decide +kernel
theorem d_Model_layGoes_229 : decode prog_14_method_55_code 229 = .ok (.getfield 89, 3) := by decide +kernel
theorem d_Model_layGoes_232 : decode prog_14_method_55_code 232 = .ok (.iconst 4, 1) := by decide +kernel
theorem d_Model_layGoes_233 : decode prog_14_method_55_code 233 = .ok (.iload_n 2, 1) := by decide +kernel
theorem d_Model_layGoes_234 : decode prog_14_method_55_code 234 = .ok (.bipush 10, 2) := by decide +kernel
theorem d_Model_layGoes_236 : decode prog_14_method_55_code 236 = .ok (.iadd, 1) := by decide +kernel
theorem d_Model_layGoes_237 : decode prog_14_method_55_code 237 = .ok (.imul, 1) := by decide +kernel
theorem d_Model_layGoes_238 : decode prog_14_method_55_code 238 = .ok (.iload 4, 2) := by decide +kernel
theorem d_Model_layGoes_240 : decode prog_14_method_55_code 240 = .ok (.iadd, 1) := by decide +kernel
theorem d_Model_layGoes_241 : decode prog_14_method_55_code 241 = .ok (.laload, 1) := by decide +kernel
theorem d_Model_layGoes_242 : decode prog_14_method_55_code 242 = .ok (.lor, 1) := by decide +kernel
theorem d_Model_layGoes_243 : decode prog_14_method_55_code 243 = .ok (.lastore, 1) := by decide +kernel
theorem d_Model_layGoes_244 : decode prog_14_method_55_code 244 = .ok (.iinc 4 1, 3) := by decide +kernel
theorem d_Model_layGoes_247 : decode prog_14_method_55_code 247 = .ok (.goto (-80), 3) := by decide +kernel
theorem d_Model_layGoes_250 : decode prog_14_method_55_code 250 = .ok (.iinc 1 1, 3) := by decide +kernel
theorem d_Model_layGoes_253 : decode prog_14_method_55_code 253 = .ok (.goto (-118), 3) := by decide +kernel
theorem d_Model_layGoes_256 : decode prog_14_method_55_code 256 = .ok (.return_, 1) := by decide +kernel
abbrev m_c1_Model_layGoes : Room := { frames := 1, cells := 0, slots := 0, locals := 20 }
set_option maxHeartbeats 4000000 in
set_option maxRecDepth 100000 in
theorem c1_Model_layGoes (l : Launch) (G : zG) (b0 : Nat) (b1 : Nat) (b2 : Nat) (b3 : Nat) (b4 : Nat) (b5 : Nat) (b6 : Nat) (b7 : Nat) (b8 : Nat) (b9 : Nat) (b10 : Nat) (b11 : Nat) (b12 : Nat) (b13 : Nat) (b14 : Nat) (b15 : Nat) (b16 : Nat) (b17 : Nat) (b18 : Nat) (b19 : Nat) (b20 : Nat) (b21 : Nat) (b22 : Nat) (b23 : Nat) (b24 : Nat) (b25 : Nat) (b26 : Nat) (b27 : Nat) (b28 : Nat) (b29 : Nat) (b30 : Nat) (b31 : Nat) (b32 : Nat) (b33 : Nat) (b34 : Nat) (b35 : Nat) (b36 : Nat) (b37 : Nat) (b38 : Nat) (b39 : Nat)  : zM l G y_Model_layGoes prog_14_method_55_code 5 (Option.none : Option Jvm.ClassFile.FieldType) m_c1_Model_layGoes [.ref b0] [(b0, .inr (12, [.int 0, .ref b1, .ref b2, .ref b3, .ref b4, .int 0, .ref b5, .int 0, .int 0, .int 0, .int 0, .ref b6, .ref b7, .ref b8, .int 0, .ref b9, .ref b10, .ref b11, .ref b12, .ref b13, .ref b14, .ref b15, .ref b16, .ref b17, .ref b18, .ref b19, .ref b20, .int 0, .ref b21, .ref b22, .int 0, .int 0, .int 0, .int 0, .ref b23, .ref b24, .ref b25, .ref b26, .ref b27, .ref b28, .ref b29, .int 0, .ref b30, .ref b31, .int 0, .ref b32, .ref b33, .ref b34, .ref b35, .ref b36, .int 0, .ref b37, .ref b38, .ref b39])), (b1, .inl (G.2 0, 503, .inl (upd (fun _ => 0) 501 1))), (b23, .inl (G.2 1, 4096, .inr (.inl (fun _ => 0)))), (b25, .inl (G.2 1, 80, .inr (.inl (fun _ => 0)))), (b24, .inl (G.2 1, 4096, .inr (.inl (fun _ => 0))))] (fun v w => (v = none ∧ w = [(b23, .inl (G.2 1, 4096, .inr (.inl (fun _ => 0)))), (b25, .inl (G.2 1, 80, .inr (.inl (fun _ => 0)))), (b24, .inl (G.2 1, 4096, .inr (.inl (fun _ => 0)))), (b0, .inr (12, [.int 0, .ref b1, .ref b2, .ref b3, .ref b4, .int 0, .ref b5, .int 0, .int 0, .int 0, .int 0, .ref b6, .ref b7, .ref b8, .int 0, .ref b9, .ref b10, .ref b11, .ref b12, .ref b13, .ref b14, .ref b15, .ref b16, .ref b17, .ref b18, .ref b19, .ref b20, .int 0, .ref b21, .ref b22, .int 0, .int 0, .int 0, .int 0, .ref b23, .ref b24, .ref b25, .ref b26, .ref b27, .ref b28, .ref b29, .int 0, .ref b30, .ref b31, .int 0, .ref b32, .ref b33, .ref b34, .ref b35, .ref b36, .int 0, .ref b37, .ref b38, .ref b39])), (b1, .inl (G.2 0, 503, .inl (upd (fun _ => 0) 501 1)))])) := by
  refine z_start (by decide +kernel) (Nat.le_of_ble_eq_true rfl) ?_
  intro p e s m below meth c A Z hr hnm hA hP hD hS ls hl
  have Z : zC p s m _ meth c prog_14_method_55_code 5 "TraceMachinesModel" G := Z
  obtain ⟨hx, hb, hml, hown, hts, hK, hN, hlocks⟩ := id Z
  have hl : lv_has ls 5 [(0, .ref b0)] := hl
  refine lv_iconst (v := 0) hx hb d_Model_layGoes_0 (by decide) ?_
  refine lv_istore_n (lv' := [(1, .int 0), (0, .ref b0)]) hx hb d_Model_layGoes_1 rfl hl (by decide) rfl (fun ls hl => ?_)
  suffices key : ∀ (k_2 i_1 : Nat) (H : Heap) (locs : List Loc) (ls : Array Slot), i_1 + k_2 = 80 → va_P G.1 classes [(b0, .inr (12, [.int 0, .ref b1, .ref b2, .ref b3, .ref b4, .int 0, .ref b5, .int 0, .int 0, .int 0, .int 0, .ref b6, .ref b7, .ref b8, .int 0, .ref b9, .ref b10, .ref b11, .ref b12, .ref b13, .ref b14, .ref b15, .ref b16, .ref b17, .ref b18, .ref b19, .ref b20, .int 0, .ref b21, .ref b22, .int 0, .int 0, .int 0, .int 0, .ref b23, .ref b24, .ref b25, .ref b26, .ref b27, .ref b28, .ref b29, .int 0, .ref b30, .ref b31, .int 0, .ref b32, .ref b33, .ref b34, .ref b35, .ref b36, .int 0, .ref b37, .ref b38, .ref b39])), (b1, .inl (G.2 0, 503, .inl (upd (fun _ => 0) 501 1))), (b23, .inl (G.2 1, 4096, .inr (.inl (fun _ => 0)))), (b25, .inl (G.2 1, 80, .inr (.inl (fun _ => 0)))), (b24, .inl (G.2 1, 4096, .inr (.inl (fun _ => 0))))] H → va_D A [(b0, .inr (12, [.int 0, .ref b1, .ref b2, .ref b3, .ref b4, .int 0, .ref b5, .int 0, .int 0, .int 0, .int 0, .ref b6, .ref b7, .ref b8, .int 0, .ref b9, .ref b10, .ref b11, .ref b12, .ref b13, .ref b14, .ref b15, .ref b16, .ref b17, .ref b18, .ref b19, .ref b20, .int 0, .ref b21, .ref b22, .int 0, .int 0, .int 0, .int 0, .ref b23, .ref b24, .ref b25, .ref b26, .ref b27, .ref b28, .ref b29, .int 0, .ref b30, .ref b31, .int 0, .ref b32, .ref b33, .ref b34, .ref b35, .ref b36, .int 0, .ref b37, .ref b38, .ref b39])), (b1, .inl (G.2 0, 503, .inl (upd (fun _ => 0) 501 1))), (b23, .inl (G.2 1, 4096, .inr (.inl (fun _ => 0)))), (b25, .inl (G.2 1, 80, .inr (.inl (fun _ => 0)))), (b24, .inl (G.2 1, 4096, .inr (.inl (fun _ => 0))))] → va_S A s.heap H locs → lv_has ls 5 [(1, .int (nI i_1)), (0, .ref b0)] → W p l e m_c1_Model_layGoes s m ([.ref b0] : List Value).toArray below meth c H locs 0 0 (MQ below (zQ G (fun v w => (v = none ∧ w = [(b23, .inl (G.2 1, 4096, .inr (.inl (fun _ => 0)))), (b25, .inl (G.2 1, 80, .inr (.inl (fun _ => 0)))), (b24, .inl (G.2 1, 4096, .inr (.inl (fun _ => 0)))), (b0, .inr (12, [.int 0, .ref b1, .ref b2, .ref b3, .ref b4, .int 0, .ref b5, .int 0, .int 0, .int 0, .int 0, .ref b6, .ref b7, .ref b8, .int 0, .ref b9, .ref b10, .ref b11, .ref b12, .ref b13, .ref b14, .ref b15, .ref b16, .ref b17, .ref b18, .ref b19, .ref b20, .int 0, .ref b21, .ref b22, .int 0, .int 0, .int 0, .int 0, .ref b23, .ref b24, .ref b25, .ref b26, .ref b27, .ref b28, .ref b29, .int 0, .ref b30, .ref b31, .int 0, .ref b32, .ref b33, .ref b34, .ref b35, .ref b36, .int 0, .ref b37, .ref b38, .ref b39])), (b1, .inl (G.2 0, 503, .inl (upd (fun _ => 0) 501 1)))])) A) ([.ref b0] : List Value).toArray s m_c1_Model_layGoes.cells m_c1_Model_layGoes.slots A) (F0 m 2 ls []) by
    exact key (80) 0  _ _ _ (by omega) hP hD hS (lv_sub hl [0, 1] rfl)
  intro k_2
  induction k_2 with
  | zero =>
    intro i_1 H locs ls hik hP hD hS hl
    obtain rfl : i_1 = 80 := by omega
    have hl : lv_has ls 5 [(1, .int (nI 80)), (0, .ref b0)] := hl
    refine lv_iload_n hx hb d_Model_layGoes_2 rfl (lv_at hl 0 rfl) ?_
    refine lv_bipush (v := 80) hx hb d_Model_layGoes_3 (by decide) ?_
    refine lv_icmp_ge (tgt := 21) hx hb d_Model_layGoes_5 (by decide) (fun _ => ?_) (fun hc => absurd hc (by decide +kernel))
    refine lv_iconst (v := 0) hx hb d_Model_layGoes_21 (by decide) ?_
    refine lv_istore_n (lv' := [(1, .int 0), (0, .ref b0)]) hx hb d_Model_layGoes_22 rfl hl (by decide) rfl (fun ls hl => ?_)
    refine lv_iload_n hx hb d_Model_layGoes_23 rfl (lv_at hl 0 rfl) ?_
    refine lv_aload_n hx hb d_Model_layGoes_24 rfl (lv_at hl 1 rfl) ?_
    refine z_callV (index := 134) (As := []) (rest := [.int 0]) (wr := [(b23, .inl (G.2 1, 4096, .inr (.inl (fun _ => 0)))), (b25, .inl (G.2 1, 80, .inr (.inl (fun _ => 0)))), (b24, .inl (G.2 1, 4096, .inr (.inl (fun _ => 0))))]) Z (c2_Model_many l G (b0) (b1) (b2) (b3) (b4) (b5) (b6) (b7) (b8) (b9) (b10) (b11) (b12) (b13) (b14) (b15) (b16) (b17) (b18) (b19) (b20) (b21) (b22) (b23) (b24) (b25) (b26) (b27) (b28) (b29) (b30) (b31) (b32) (b33) (b34) (b35) (b36) (b37) (b38) (b39)) hl.1 q1324 q1326 qs51 q14 q1327 ⟨by decide, by decide, by show _ = some 0; decide +kernel⟩ ⟨Nat.le_of_ble_eq_true rfl, Nat.le_of_ble_eq_true rfl⟩ ⟨Nat.le_of_ble_eq_true rfl, Nat.le_of_ble_eq_true rfl⟩ rfl (Nat.le_of_ble_eq_true rfl) d_Model_layGoes_25 hP hD hS hA 0 12 rfl rfl rfl [0, 1] [2, 3, 4] rfl rfl rfl rfl (by decide) (fun v w1 H locs hw_3 hP hD hS => ?_)
    obtain ⟨rfl, rfl⟩ := hw_3
    have hP : va_P G.1 classes [(b23, .inl (G.2 1, 4096, .inr (.inl (fun _ => 0)))), (b25, .inl (G.2 1, 80, .inr (.inl (fun _ => 0)))), (b24, .inl (G.2 1, 4096, .inr (.inl (fun _ => 0)))), (b0, .inr (12, [.int 0, .ref b1, .ref b2, .ref b3, .ref b4, .int 0, .ref b5, .int 0, .int 0, .int 0, .int 0, .ref b6, .ref b7, .ref b8, .int 0, .ref b9, .ref b10, .ref b11, .ref b12, .ref b13, .ref b14, .ref b15, .ref b16, .ref b17, .ref b18, .ref b19, .ref b20, .int 0, .ref b21, .ref b22, .int 0, .int 0, .int 0, .int 0, .ref b23, .ref b24, .ref b25, .ref b26, .ref b27, .ref b28, .ref b29, .int 0, .ref b30, .ref b31, .int 0, .ref b32, .ref b33, .ref b34, .ref b35, .ref b36, .int 0, .ref b37, .ref b38, .ref b39])), (b1, .inl (G.2 0, 503, .inl (upd (fun _ => 0) 501 1)))] H := hP
    have hD := z_tie hP hD rfl
    refine W.widen (k := 0) (n := 0) (Nat.le_of_ble_eq_true rfl) (Nat.le_of_ble_eq_true rfl) ?_
    refine lv_icmp_ge (tgt := 104) hx hb d_Model_layGoes_28 (by decide) (fun _ => ?_) (fun hc => absurd hc (by decide +kernel))
    refine lv_iconst (v := 0) hx hb d_Model_layGoes_104 (by decide) ?_
    refine lv_istore_n (lv' := [(1, .int 0), (0, .ref b0)]) hx hb d_Model_layGoes_105 rfl hl (by decide) rfl (fun ls hl => ?_)
    suffices key : ∀ (k_5 i_4 : Nat) (H : Heap) (locs : List Loc) (ls : Array Slot), i_4 + k_5 = 4096 → va_P G.1 classes [(b23, .inl (G.2 1, 4096, .inr (.inl (fun _ => 0)))), (b25, .inl (G.2 1, 80, .inr (.inl (fun _ => 0)))), (b24, .inl (G.2 1, 4096, .inr (.inl (fun _ => 0)))), (b0, .inr (12, [.int 0, .ref b1, .ref b2, .ref b3, .ref b4, .int 0, .ref b5, .int 0, .int 0, .int 0, .int 0, .ref b6, .ref b7, .ref b8, .int 0, .ref b9, .ref b10, .ref b11, .ref b12, .ref b13, .ref b14, .ref b15, .ref b16, .ref b17, .ref b18, .ref b19, .ref b20, .int 0, .ref b21, .ref b22, .int 0, .int 0, .int 0, .int 0, .ref b23, .ref b24, .ref b25, .ref b26, .ref b27, .ref b28, .ref b29, .int 0, .ref b30, .ref b31, .int 0, .ref b32, .ref b33, .ref b34, .ref b35, .ref b36, .int 0, .ref b37, .ref b38, .ref b39])), (b1, .inl (G.2 0, 503, .inl (upd (fun _ => 0) 501 1)))] H → va_D A [(b23, .inl (G.2 1, 4096, .inr (.inl (fun _ => 0)))), (b25, .inl (G.2 1, 80, .inr (.inl (fun _ => 0)))), (b24, .inl (G.2 1, 4096, .inr (.inl (fun _ => 0)))), (b0, .inr (12, [.int 0, .ref b1, .ref b2, .ref b3, .ref b4, .int 0, .ref b5, .int 0, .int 0, .int 0, .int 0, .ref b6, .ref b7, .ref b8, .int 0, .ref b9, .ref b10, .ref b11, .ref b12, .ref b13, .ref b14, .ref b15, .ref b16, .ref b17, .ref b18, .ref b19, .ref b20, .int 0, .ref b21, .ref b22, .int 0, .int 0, .int 0, .int 0, .ref b23, .ref b24, .ref b25, .ref b26, .ref b27, .ref b28, .ref b29, .int 0, .ref b30, .ref b31, .int 0, .ref b32, .ref b33, .ref b34, .ref b35, .ref b36, .int 0, .ref b37, .ref b38, .ref b39])), (b1, .inl (G.2 0, 503, .inl (upd (fun _ => 0) 501 1)))] → va_S A s.heap H locs → lv_has ls 5 [(1, .int (nI i_4)), (0, .ref b0)] → W p l e m_c1_Model_layGoes s m ([.ref b0] : List Value).toArray below meth c H locs 0 0 (MQ below (zQ G (fun v w => (v = none ∧ w = [(b23, .inl (G.2 1, 4096, .inr (.inl (fun _ => 0)))), (b25, .inl (G.2 1, 80, .inr (.inl (fun _ => 0)))), (b24, .inl (G.2 1, 4096, .inr (.inl (fun _ => 0)))), (b0, .inr (12, [.int 0, .ref b1, .ref b2, .ref b3, .ref b4, .int 0, .ref b5, .int 0, .int 0, .int 0, .int 0, .ref b6, .ref b7, .ref b8, .int 0, .ref b9, .ref b10, .ref b11, .ref b12, .ref b13, .ref b14, .ref b15, .ref b16, .ref b17, .ref b18, .ref b19, .ref b20, .int 0, .ref b21, .ref b22, .int 0, .int 0, .int 0, .int 0, .ref b23, .ref b24, .ref b25, .ref b26, .ref b27, .ref b28, .ref b29, .int 0, .ref b30, .ref b31, .int 0, .ref b32, .ref b33, .ref b34, .ref b35, .ref b36, .int 0, .ref b37, .ref b38, .ref b39])), (b1, .inl (G.2 0, 503, .inl (upd (fun _ => 0) 501 1)))])) A) ([.ref b0] : List Value).toArray s m_c1_Model_layGoes.cells m_c1_Model_layGoes.slots A) (F0 m 106 ls []) by
      exact key (4096) 0  _ _ _ (by omega) hP hD hS (lv_sub hl [0, 1] rfl)
    intro k_5
    induction k_5 with
    | zero =>
      intro i_4 H locs ls hik hP hD hS hl
      obtain rfl : i_4 = 4096 := by omega
      have hl : lv_has ls 5 [(1, .int (nI 4096)), (0, .ref b0)] := hl
      refine lv_iload_n hx hb d_Model_layGoes_106 rfl (lv_at hl 0 rfl) ?_
      refine lv_sipush (v := 4096) hx hb d_Model_layGoes_107 (by decide) ?_
      refine lv_icmp_ge (tgt := 133) hx hb d_Model_layGoes_110 (by decide) (fun _ => ?_) (fun hc => absurd hc (by decide +kernel))
      refine lv_iconst (v := 1) hx hb d_Model_layGoes_133 (by decide) ?_
      refine lv_istore_n (lv' := [(1, .int 1), (0, .ref b0)]) hx hb d_Model_layGoes_134 rfl hl (by decide) rfl (fun ls hl => ?_)
      suffices key : ∀ (k_7 i_6 : Nat) (H : Heap) (locs : List Loc) (ls : Array Slot), i_6 + k_7 = 1024 → (1 ≤ i_6) → va_P G.1 classes [(b23, .inl (G.2 1, 4096, .inr (.inl (fun _ => 0)))), (b25, .inl (G.2 1, 80, .inr (.inl (fun _ => 0)))), (b24, .inl (G.2 1, 4096, .inr (.inl (fun _ => 0)))), (b0, .inr (12, [.int 0, .ref b1, .ref b2, .ref b3, .ref b4, .int 0, .ref b5, .int 0, .int 0, .int 0, .int 0, .ref b6, .ref b7, .ref b8, .int 0, .ref b9, .ref b10, .ref b11, .ref b12, .ref b13, .ref b14, .ref b15, .ref b16, .ref b17, .ref b18, .ref b19, .ref b20, .int 0, .ref b21, .ref b22, .int 0, .int 0, .int 0, .int 0, .ref b23, .ref b24, .ref b25, .ref b26, .ref b27, .ref b28, .ref b29, .int 0, .ref b30, .ref b31, .int 0, .ref b32, .ref b33, .ref b34, .ref b35, .ref b36, .int 0, .ref b37, .ref b38, .ref b39])), (b1, .inl (G.2 0, 503, .inl (upd (fun _ => 0) 501 1)))] H → va_D A [(b23, .inl (G.2 1, 4096, .inr (.inl (fun _ => 0)))), (b25, .inl (G.2 1, 80, .inr (.inl (fun _ => 0)))), (b24, .inl (G.2 1, 4096, .inr (.inl (fun _ => 0)))), (b0, .inr (12, [.int 0, .ref b1, .ref b2, .ref b3, .ref b4, .int 0, .ref b5, .int 0, .int 0, .int 0, .int 0, .ref b6, .ref b7, .ref b8, .int 0, .ref b9, .ref b10, .ref b11, .ref b12, .ref b13, .ref b14, .ref b15, .ref b16, .ref b17, .ref b18, .ref b19, .ref b20, .int 0, .ref b21, .ref b22, .int 0, .int 0, .int 0, .int 0, .ref b23, .ref b24, .ref b25, .ref b26, .ref b27, .ref b28, .ref b29, .int 0, .ref b30, .ref b31, .int 0, .ref b32, .ref b33, .ref b34, .ref b35, .ref b36, .int 0, .ref b37, .ref b38, .ref b39])), (b1, .inl (G.2 0, 503, .inl (upd (fun _ => 0) 501 1)))] → va_S A s.heap H locs → lv_has ls 5 [(1, .int (nI i_6)), (0, .ref b0)] → W p l e m_c1_Model_layGoes s m ([.ref b0] : List Value).toArray below meth c H locs 0 0 (MQ below (zQ G (fun v w => (v = none ∧ w = [(b23, .inl (G.2 1, 4096, .inr (.inl (fun _ => 0)))), (b25, .inl (G.2 1, 80, .inr (.inl (fun _ => 0)))), (b24, .inl (G.2 1, 4096, .inr (.inl (fun _ => 0)))), (b0, .inr (12, [.int 0, .ref b1, .ref b2, .ref b3, .ref b4, .int 0, .ref b5, .int 0, .int 0, .int 0, .int 0, .ref b6, .ref b7, .ref b8, .int 0, .ref b9, .ref b10, .ref b11, .ref b12, .ref b13, .ref b14, .ref b15, .ref b16, .ref b17, .ref b18, .ref b19, .ref b20, .int 0, .ref b21, .ref b22, .int 0, .int 0, .int 0, .int 0, .ref b23, .ref b24, .ref b25, .ref b26, .ref b27, .ref b28, .ref b29, .int 0, .ref b30, .ref b31, .int 0, .ref b32, .ref b33, .ref b34, .ref b35, .ref b36, .int 0, .ref b37, .ref b38, .ref b39])), (b1, .inl (G.2 0, 503, .inl (upd (fun _ => 0) 501 1)))])) A) ([.ref b0] : List Value).toArray s m_c1_Model_layGoes.cells m_c1_Model_layGoes.slots A) (F0 m 135 ls []) by
        exact key (1024 - 1) 1  _ _ _ (by omega) (Nat.le_refl _) hP hD hS (lv_sub hl [0, 1] rfl)
      intro k_7
      induction k_7 with
      | zero =>
        intro i_6 H locs ls hik hlo_8 hP hD hS hl
        obtain rfl : i_6 = 1024 := by omega
        have hl : lv_has ls 5 [(1, .int (nI 1024)), (0, .ref b0)] := hl
        refine lv_iload_n hx hb d_Model_layGoes_135 rfl (lv_at hl 0 rfl) ?_
        refine lv_sipush (v := 1024) hx hb d_Model_layGoes_136 (by decide) ?_
        refine lv_icmp_ge (tgt := 256) hx hb d_Model_layGoes_139 (by decide) (fun _ => ?_) (fun hc => absurd hc (by decide +kernel))
        exact z_vret hx hb hr hlocks hP hD hS (Nat.le_of_ble_eq_true rfl) (Nat.le_of_ble_eq_true rfl) d_Model_layGoes_256 ⟨rfl, rfl⟩
      | succ k_7 ih =>
        intro i_6 H locs ls hik hlo_8 hP hD hS hl
        have hilt : i_6 < 1024 := by omega
        obtain ⟨T, hT, hT1, hT0⟩ := z_low i_6 (by omega) (by omega)
        refine lv_iload_n hx hb d_Model_layGoes_135 rfl (lv_at hl 0 rfl) ?_
        refine lv_sipush (v := 1024) hx hb d_Model_layGoes_136 (by decide) ?_
        refine lv_icmp_ge (tgt := 256) hx hb d_Model_layGoes_139 (by decide) (fun hc => absurd hc (nI_ge hilt (by decide))) (fun _ => ?_)
        refine lv_iconst (v := 0) hx hb d_Model_layGoes_142 (by decide) ?_
        refine lv_istore_n (lv' := [(2, .int 0), (1, .int (nI i_6)), (0, .ref b0)]) hx hb d_Model_layGoes_143 rfl hl (by decide) rfl (fun ls hl => ?_)
        suffices key : ∀ (k_10 i_9 : Nat) (H : Heap) (locs : List Loc) (ls : Array Slot), i_9 + k_10 = T → va_P G.1 classes [(b23, .inl (G.2 1, 4096, .inr (.inl (fun _ => 0)))), (b25, .inl (G.2 1, 80, .inr (.inl (fun _ => 0)))), (b24, .inl (G.2 1, 4096, .inr (.inl (fun _ => 0)))), (b0, .inr (12, [.int 0, .ref b1, .ref b2, .ref b3, .ref b4, .int 0, .ref b5, .int 0, .int 0, .int 0, .int 0, .ref b6, .ref b7, .ref b8, .int 0, .ref b9, .ref b10, .ref b11, .ref b12, .ref b13, .ref b14, .ref b15, .ref b16, .ref b17, .ref b18, .ref b19, .ref b20, .int 0, .ref b21, .ref b22, .int 0, .int 0, .int 0, .int 0, .ref b23, .ref b24, .ref b25, .ref b26, .ref b27, .ref b28, .ref b29, .int 0, .ref b30, .ref b31, .int 0, .ref b32, .ref b33, .ref b34, .ref b35, .ref b36, .int 0, .ref b37, .ref b38, .ref b39])), (b1, .inl (G.2 0, 503, .inl (upd (fun _ => 0) 501 1)))] H → va_D A [(b23, .inl (G.2 1, 4096, .inr (.inl (fun _ => 0)))), (b25, .inl (G.2 1, 80, .inr (.inl (fun _ => 0)))), (b24, .inl (G.2 1, 4096, .inr (.inl (fun _ => 0)))), (b0, .inr (12, [.int 0, .ref b1, .ref b2, .ref b3, .ref b4, .int 0, .ref b5, .int 0, .int 0, .int 0, .int 0, .ref b6, .ref b7, .ref b8, .int 0, .ref b9, .ref b10, .ref b11, .ref b12, .ref b13, .ref b14, .ref b15, .ref b16, .ref b17, .ref b18, .ref b19, .ref b20, .int 0, .ref b21, .ref b22, .int 0, .int 0, .int 0, .int 0, .ref b23, .ref b24, .ref b25, .ref b26, .ref b27, .ref b28, .ref b29, .int 0, .ref b30, .ref b31, .int 0, .ref b32, .ref b33, .ref b34, .ref b35, .ref b36, .int 0, .ref b37, .ref b38, .ref b39])), (b1, .inl (G.2 0, 503, .inl (upd (fun _ => 0) 501 1)))] → va_S A s.heap H locs → lv_has ls 5 [(2, .int (nI i_9)), (1, .int (nI i_6)), (0, .ref b0)] → W p l e m_c1_Model_layGoes s m ([.ref b0] : List Value).toArray below meth c H locs 0 0 (MQ below (zQ G (fun v w => (v = none ∧ w = [(b23, .inl (G.2 1, 4096, .inr (.inl (fun _ => 0)))), (b25, .inl (G.2 1, 80, .inr (.inl (fun _ => 0)))), (b24, .inl (G.2 1, 4096, .inr (.inl (fun _ => 0)))), (b0, .inr (12, [.int 0, .ref b1, .ref b2, .ref b3, .ref b4, .int 0, .ref b5, .int 0, .int 0, .int 0, .int 0, .ref b6, .ref b7, .ref b8, .int 0, .ref b9, .ref b10, .ref b11, .ref b12, .ref b13, .ref b14, .ref b15, .ref b16, .ref b17, .ref b18, .ref b19, .ref b20, .int 0, .ref b21, .ref b22, .int 0, .int 0, .int 0, .int 0, .ref b23, .ref b24, .ref b25, .ref b26, .ref b27, .ref b28, .ref b29, .int 0, .ref b30, .ref b31, .int 0, .ref b32, .ref b33, .ref b34, .ref b35, .ref b36, .int 0, .ref b37, .ref b38, .ref b39])), (b1, .inl (G.2 0, 503, .inl (upd (fun _ => 0) 501 1)))])) A) ([.ref b0] : List Value).toArray s m_c1_Model_layGoes.cells m_c1_Model_layGoes.slots A) (F0 m 144 ls []) by
          exact key (T) 0  _ _ _ (by omega) hP hD hS (lv_sub hl [0, 1, 2] rfl)
        intro k_10
        induction k_10 with
        | zero =>
          intro i_9 H locs ls hik hP hD hS hl
          obtain rfl : T = i_9 := by omega
          refine lv_iload_n hx hb d_Model_layGoes_144 rfl (lv_at hl 1 rfl) ?_
          refine lv_iload_n hx hb d_Model_layGoes_145 rfl (lv_at hl 0 rfl) ?_
          refine lv_ishr hx hb d_Model_layGoes_146 ?_
          refine lv_topi (fun v_11 ev_11 => ?_)
          refine lv_iconst (v := 1) hx hb d_Model_layGoes_147 (by decide) ?_
          refine lv_iand hx hb d_Model_layGoes_148 ?_
          refine lv_topi (fun v_12 ev_12 => ?_)
          refine lv_if_ne (tgt := 158) hx hb d_Model_layGoes_149 (by decide) (fun _ => ?_) (fun hc => absurd hc (by rw [ev_12, ev_11]; exact hT1))
          refine lv_iload_n hx hb d_Model_layGoes_158 rfl (lv_at hl 1 rfl) ?_
          refine lv_iload_n hx hb d_Model_layGoes_159 rfl (lv_at hl 1 rfl) ?_
          refine lv_iconst (v := 1) hx hb d_Model_layGoes_160 (by decide) ?_
          refine lv_isub hx hb d_Model_layGoes_161 ?_
          refine lv_topi (fun v_13 ev_13 => ?_)
          refine lv_iand hx hb d_Model_layGoes_162 ?_
          refine lv_topi (fun v_14 ev_14 => ?_)
          obtain ⟨r, hr, er⟩ := z_rest i_6 (by omega) (by omega)
          obtain rfl : v_14 = (nI r) := (by rw [ev_14, ev_13]; exact er)
          refine lv_istore_n (lv' := [(3, .int (nI r)), (2, .int (nI T)), (1, .int (nI i_6)), (0, .ref b0)]) hx hb d_Model_layGoes_163 rfl hl (by decide) rfl (fun ls hl => ?_)
          refine lv_iconst (v := 0) hx hb d_Model_layGoes_164 (by decide) ?_
          refine lv_istore (lv' := [(4, .int 0), (3, .int (nI r)), (2, .int (nI T)), (1, .int (nI i_6)), (0, .ref b0)]) hx hb d_Model_layGoes_165 hl (by decide) rfl (fun ls hl => ?_)
          refine lv_iload hx hb d_Model_layGoes_167 (lv_at hl 0 rfl) ?_
          refine lv_iconst (v := 4) hx hb d_Model_layGoes_169 (by decide) ?_
          refine lv_icmp_ge (tgt := 250) hx hb d_Model_layGoes_170 (by decide) (fun hc => absurd hc (by decide +kernel)) (fun _ => ?_)
          refine lv_aload_n hx hb d_Model_layGoes_173 rfl (lv_at hl 4 rfl) ?_
          refine va_get (D := G.1) (ci := 12) (v := .ref b23) (C := R_Model) (T := F_Model) (N := 54) hx hb hts i_Model hown hK hP 3 rfl rfl 34 (by decide) (hts _ q1147) (fun _ h9 => h9) rfl d_Model_layGoes_174 ?_
          refine lv_iconst (v := 4) hx hb d_Model_layGoes_177 (by decide) ?_
          refine lv_iload_n hx hb d_Model_layGoes_178 rfl (lv_at hl 3 rfl) ?_
          refine lv_imul hx hb d_Model_layGoes_179 ?_
          refine lv_topi (fun v_15 ev_15 => ?_)
          obtain rfl : v_15 = (nI (4 * i_6)) := (by rw [ev_15]; exact pk_mul (4) (i_6))
          refine lv_iload hx hb d_Model_layGoes_180 (lv_at hl 0 rfl) ?_
          refine lv_iadd hx hb d_Model_layGoes_182 ?_
          refine lv_topi (fun v_16 ev_16 => ?_)
          obtain rfl : v_16 = (nI ((4 * i_6) + 0)) := (by rw [ev_16]; exact nI_add ((4 * i_6)) (0))
          refine lv_aload_n hx hb d_Model_layGoes_183 rfl (lv_at hl 4 rfl) ?_
          refine va_get (D := G.1) (ci := 12) (v := .ref b23) (C := R_Model) (T := F_Model) (N := 54) hx hb hts i_Model hown hK hP 3 rfl rfl 34 (by decide) (hts _ q1147) (fun _ h9 => h9) rfl d_Model_layGoes_184 ?_
          refine lv_iconst (v := 4) hx hb d_Model_layGoes_187 (by decide) ?_
          refine lv_iload_n hx hb d_Model_layGoes_188 rfl (lv_at hl 1 rfl) ?_
          refine lv_imul hx hb d_Model_layGoes_189 ?_
          refine lv_topi (fun v_17 ev_17 => ?_)
          obtain rfl : v_17 = (nI (4 * r)) := (by rw [ev_17]; exact pk_mul (4) (r))
          refine lv_iload hx hb d_Model_layGoes_190 (lv_at hl 0 rfl) ?_
          refine lv_iadd hx hb d_Model_layGoes_192 ?_
          refine lv_topi (fun v_18 ev_18 => ?_)
          obtain rfl : v_18 = (nI ((4 * r) + 0)) := (by rw [ev_18]; exact nI_add ((4 * r)) (0))
          refine va_lald hx hb hK hP 0 1 rfl rfl (z_inN (by omega) (by decide)) d_Model_layGoes_193 ?_
          refine z_topl (y := 0) rfl ?_
          refine lv_aload_n hx hb d_Model_layGoes_194 rfl (lv_at hl 4 rfl) ?_
          refine va_get (D := G.1) (ci := 12) (v := .ref b25) (C := R_Model) (T := F_Model) (N := 54) hx hb hts i_Model hown hK hP 3 rfl rfl 36 (by decide) (hts _ q1149) (fun _ h9 => h9) rfl d_Model_layGoes_195 ?_
          refine lv_iconst (v := 4) hx hb d_Model_layGoes_198 (by decide) ?_
          refine lv_iload_n hx hb d_Model_layGoes_199 rfl (lv_at hl 2 rfl) ?_
          refine lv_imul hx hb d_Model_layGoes_200 ?_
          refine lv_topi (fun v_19 ev_19 => ?_)
          obtain rfl : v_19 = (nI (4 * T)) := (by rw [ev_19]; exact pk_mul (4) (T))
          refine lv_iload hx hb d_Model_layGoes_201 (lv_at hl 0 rfl) ?_
          refine lv_iadd hx hb d_Model_layGoes_203 ?_
          refine lv_topi (fun v_20 ev_20 => ?_)
          obtain rfl : v_20 = (nI ((4 * T) + 0)) := (by rw [ev_20]; exact nI_add ((4 * T)) (0))
          refine va_lald hx hb hK hP 1 1 rfl rfl (z_inN (by omega) (by decide)) d_Model_layGoes_204 ?_
          refine z_topl (y := 0) rfl ?_
          refine lv_lor hx hb d_Model_layGoes_205 ?_
          refine z_topl (y := 0) (by decide +kernel) ?_
          refine va_last hx hb hK hP hD hS 0 1 rfl rfl (z_inN (by omega) (by decide)) d_Model_layGoes_206 (fun H locs hP hD hS => ?_)
          obtain ⟨hP, hD⟩ := z_extl (g := (fun _ => 0)) 0 hP hD rfl (fun j _ => by unfold vp_updL; split <;> rfl)
          have hP : va_P G.1 classes [(b23, .inl (G.2 1, 4096, .inr (.inl (fun _ => 0)))), (b25, .inl (G.2 1, 80, .inr (.inl (fun _ => 0)))), (b24, .inl (G.2 1, 4096, .inr (.inl (fun _ => 0)))), (b0, .inr (12, [.int 0, .ref b1, .ref b2, .ref b3, .ref b4, .int 0, .ref b5, .int 0, .int 0, .int 0, .int 0, .ref b6, .ref b7, .ref b8, .int 0, .ref b9, .ref b10, .ref b11, .ref b12, .ref b13, .ref b14, .ref b15, .ref b16, .ref b17, .ref b18, .ref b19, .ref b20, .int 0, .ref b21, .ref b22, .int 0, .int 0, .int 0, .int 0, .ref b23, .ref b24, .ref b25, .ref b26, .ref b27, .ref b28, .ref b29, .int 0, .ref b30, .ref b31, .int 0, .ref b32, .ref b33, .ref b34, .ref b35, .ref b36, .int 0, .ref b37, .ref b38, .ref b39])), (b1, .inl (G.2 0, 503, .inl (upd (fun _ => 0) 501 1)))] H := hP
          have hD := z_tie hP hD rfl
          refine lv_aload_n hx hb d_Model_layGoes_207 rfl (lv_at hl 4 rfl) ?_
          refine va_get (D := G.1) (ci := 12) (v := .ref b24) (C := R_Model) (T := F_Model) (N := 54) hx hb hts i_Model hown hK hP 3 rfl rfl 35 (by decide) (hts _ q1148) (fun _ h9 => h9) rfl d_Model_layGoes_208 ?_
          refine lv_iconst (v := 4) hx hb d_Model_layGoes_211 (by decide) ?_
          refine lv_iload_n hx hb d_Model_layGoes_212 rfl (lv_at hl 3 rfl) ?_
          refine lv_imul hx hb d_Model_layGoes_213 ?_
          refine lv_topi (fun v_21 ev_21 => ?_)
          obtain rfl : v_21 = (nI (4 * i_6)) := (by rw [ev_21]; exact pk_mul (4) (i_6))
          refine lv_iload hx hb d_Model_layGoes_214 (lv_at hl 0 rfl) ?_
          refine lv_iadd hx hb d_Model_layGoes_216 ?_
          refine lv_topi (fun v_22 ev_22 => ?_)
          obtain rfl : v_22 = (nI ((4 * i_6) + 0)) := (by rw [ev_22]; exact nI_add ((4 * i_6)) (0))
          refine lv_aload_n hx hb d_Model_layGoes_217 rfl (lv_at hl 4 rfl) ?_
          refine va_get (D := G.1) (ci := 12) (v := .ref b24) (C := R_Model) (T := F_Model) (N := 54) hx hb hts i_Model hown hK hP 3 rfl rfl 35 (by decide) (hts _ q1148) (fun _ h9 => h9) rfl d_Model_layGoes_218 ?_
          refine lv_iconst (v := 4) hx hb d_Model_layGoes_221 (by decide) ?_
          refine lv_iload_n hx hb d_Model_layGoes_222 rfl (lv_at hl 1 rfl) ?_
          refine lv_imul hx hb d_Model_layGoes_223 ?_
          refine lv_topi (fun v_23 ev_23 => ?_)
          obtain rfl : v_23 = (nI (4 * r)) := (by rw [ev_23]; exact pk_mul (4) (r))
          refine lv_iload hx hb d_Model_layGoes_224 (lv_at hl 0 rfl) ?_
          refine lv_iadd hx hb d_Model_layGoes_226 ?_
          refine lv_topi (fun v_24 ev_24 => ?_)
          obtain rfl : v_24 = (nI ((4 * r) + 0)) := (by rw [ev_24]; exact nI_add ((4 * r)) (0))
          refine va_lald hx hb hK hP 2 1 rfl rfl (z_inN (by omega) (by decide)) d_Model_layGoes_227 ?_
          refine z_topl (y := 0) rfl ?_
          refine lv_aload_n hx hb d_Model_layGoes_228 rfl (lv_at hl 4 rfl) ?_
          refine va_get (D := G.1) (ci := 12) (v := .ref b25) (C := R_Model) (T := F_Model) (N := 54) hx hb hts i_Model hown hK hP 3 rfl rfl 36 (by decide) (hts _ q1149) (fun _ h9 => h9) rfl d_Model_layGoes_229 ?_
          refine lv_iconst (v := 4) hx hb d_Model_layGoes_232 (by decide) ?_
          refine lv_iload_n hx hb d_Model_layGoes_233 rfl (lv_at hl 2 rfl) ?_
          refine lv_bipush (v := 10) hx hb d_Model_layGoes_234 (by decide) ?_
          refine lv_iadd hx hb d_Model_layGoes_236 ?_
          refine lv_topi (fun v_25 ev_25 => ?_)
          obtain rfl : v_25 = (nI (T + 10)) := (by rw [ev_25]; exact nI_add (T) (10))
          refine lv_imul hx hb d_Model_layGoes_237 ?_
          refine lv_topi (fun v_26 ev_26 => ?_)
          obtain rfl : v_26 = (nI (4 * (T + 10))) := (by rw [ev_26]; exact pk_mul (4) ((T + 10)))
          refine lv_iload hx hb d_Model_layGoes_238 (lv_at hl 0 rfl) ?_
          refine lv_iadd hx hb d_Model_layGoes_240 ?_
          refine lv_topi (fun v_27 ev_27 => ?_)
          obtain rfl : v_27 = (nI ((4 * (T + 10)) + 0)) := (by rw [ev_27]; exact nI_add ((4 * (T + 10))) (0))
          refine va_lald hx hb hK hP 1 1 rfl rfl (z_inN (by omega) (by decide)) d_Model_layGoes_241 ?_
          refine z_topl (y := 0) rfl ?_
          refine lv_lor hx hb d_Model_layGoes_242 ?_
          refine z_topl (y := 0) (by decide +kernel) ?_
          refine va_last hx hb hK hP hD hS 2 1 rfl rfl (z_inN (by omega) (by decide)) d_Model_layGoes_243 (fun H locs hP hD hS => ?_)
          obtain ⟨hP, hD⟩ := z_extl (g := (fun _ => 0)) 2 hP hD rfl (fun j _ => by unfold vp_updL; split <;> rfl)
          have hP : va_P G.1 classes [(b23, .inl (G.2 1, 4096, .inr (.inl (fun _ => 0)))), (b25, .inl (G.2 1, 80, .inr (.inl (fun _ => 0)))), (b24, .inl (G.2 1, 4096, .inr (.inl (fun _ => 0)))), (b0, .inr (12, [.int 0, .ref b1, .ref b2, .ref b3, .ref b4, .int 0, .ref b5, .int 0, .int 0, .int 0, .int 0, .ref b6, .ref b7, .ref b8, .int 0, .ref b9, .ref b10, .ref b11, .ref b12, .ref b13, .ref b14, .ref b15, .ref b16, .ref b17, .ref b18, .ref b19, .ref b20, .int 0, .ref b21, .ref b22, .int 0, .int 0, .int 0, .int 0, .ref b23, .ref b24, .ref b25, .ref b26, .ref b27, .ref b28, .ref b29, .int 0, .ref b30, .ref b31, .int 0, .ref b32, .ref b33, .ref b34, .ref b35, .ref b36, .int 0, .ref b37, .ref b38, .ref b39])), (b1, .inl (G.2 0, 503, .inl (upd (fun _ => 0) 501 1)))] H := hP
          have hD := z_tie hP hD rfl
          refine lv_iinc (v := 1) (lv' := [(4, .int 1), (3, .int (nI r)), (2, .int (nI T)), (1, .int (nI i_6)), (0, .ref b0)]) hx hb d_Model_layGoes_244 hl (k := 0) rfl (by decide +kernel) (by decide) rfl (fun ls hl => ?_)
          refine lv_goto (tgt := 167) hx hb d_Model_layGoes_247 (by decide) ?_
          refine lv_iload hx hb d_Model_layGoes_167 (lv_at hl 0 rfl) ?_
          refine lv_iconst (v := 4) hx hb d_Model_layGoes_169 (by decide) ?_
          refine lv_icmp_ge (tgt := 250) hx hb d_Model_layGoes_170 (by decide) (fun hc => absurd hc (by decide +kernel)) (fun _ => ?_)
          refine lv_aload_n hx hb d_Model_layGoes_173 rfl (lv_at hl 4 rfl) ?_
          refine va_get (D := G.1) (ci := 12) (v := .ref b23) (C := R_Model) (T := F_Model) (N := 54) hx hb hts i_Model hown hK hP 3 rfl rfl 34 (by decide) (hts _ q1147) (fun _ h9 => h9) rfl d_Model_layGoes_174 ?_
          refine lv_iconst (v := 4) hx hb d_Model_layGoes_177 (by decide) ?_
          refine lv_iload_n hx hb d_Model_layGoes_178 rfl (lv_at hl 3 rfl) ?_
          refine lv_imul hx hb d_Model_layGoes_179 ?_
          refine lv_topi (fun v_28 ev_28 => ?_)
          obtain rfl : v_28 = (nI (4 * i_6)) := (by rw [ev_28]; exact pk_mul (4) (i_6))
          refine lv_iload hx hb d_Model_layGoes_180 (lv_at hl 0 rfl) ?_
          refine lv_iadd hx hb d_Model_layGoes_182 ?_
          refine lv_topi (fun v_29 ev_29 => ?_)
          obtain rfl : v_29 = (nI ((4 * i_6) + 1)) := (by rw [ev_29]; exact nI_add ((4 * i_6)) (1))
          refine lv_aload_n hx hb d_Model_layGoes_183 rfl (lv_at hl 4 rfl) ?_
          refine va_get (D := G.1) (ci := 12) (v := .ref b23) (C := R_Model) (T := F_Model) (N := 54) hx hb hts i_Model hown hK hP 3 rfl rfl 34 (by decide) (hts _ q1147) (fun _ h9 => h9) rfl d_Model_layGoes_184 ?_
          refine lv_iconst (v := 4) hx hb d_Model_layGoes_187 (by decide) ?_
          refine lv_iload_n hx hb d_Model_layGoes_188 rfl (lv_at hl 1 rfl) ?_
          refine lv_imul hx hb d_Model_layGoes_189 ?_
          refine lv_topi (fun v_30 ev_30 => ?_)
          obtain rfl : v_30 = (nI (4 * r)) := (by rw [ev_30]; exact pk_mul (4) (r))
          refine lv_iload hx hb d_Model_layGoes_190 (lv_at hl 0 rfl) ?_
          refine lv_iadd hx hb d_Model_layGoes_192 ?_
          refine lv_topi (fun v_31 ev_31 => ?_)
          obtain rfl : v_31 = (nI ((4 * r) + 1)) := (by rw [ev_31]; exact nI_add ((4 * r)) (1))
          refine va_lald hx hb hK hP 0 1 rfl rfl (z_inN (by omega) (by decide)) d_Model_layGoes_193 ?_
          refine z_topl (y := 0) rfl ?_
          refine lv_aload_n hx hb d_Model_layGoes_194 rfl (lv_at hl 4 rfl) ?_
          refine va_get (D := G.1) (ci := 12) (v := .ref b25) (C := R_Model) (T := F_Model) (N := 54) hx hb hts i_Model hown hK hP 3 rfl rfl 36 (by decide) (hts _ q1149) (fun _ h9 => h9) rfl d_Model_layGoes_195 ?_
          refine lv_iconst (v := 4) hx hb d_Model_layGoes_198 (by decide) ?_
          refine lv_iload_n hx hb d_Model_layGoes_199 rfl (lv_at hl 2 rfl) ?_
          refine lv_imul hx hb d_Model_layGoes_200 ?_
          refine lv_topi (fun v_32 ev_32 => ?_)
          obtain rfl : v_32 = (nI (4 * T)) := (by rw [ev_32]; exact pk_mul (4) (T))
          refine lv_iload hx hb d_Model_layGoes_201 (lv_at hl 0 rfl) ?_
          refine lv_iadd hx hb d_Model_layGoes_203 ?_
          refine lv_topi (fun v_33 ev_33 => ?_)
          obtain rfl : v_33 = (nI ((4 * T) + 1)) := (by rw [ev_33]; exact nI_add ((4 * T)) (1))
          refine va_lald hx hb hK hP 1 1 rfl rfl (z_inN (by omega) (by decide)) d_Model_layGoes_204 ?_
          refine z_topl (y := 0) rfl ?_
          refine lv_lor hx hb d_Model_layGoes_205 ?_
          refine z_topl (y := 0) (by decide +kernel) ?_
          refine va_last hx hb hK hP hD hS 0 1 rfl rfl (z_inN (by omega) (by decide)) d_Model_layGoes_206 (fun H locs hP hD hS => ?_)
          obtain ⟨hP, hD⟩ := z_extl (g := (fun _ => 0)) 0 hP hD rfl (fun j _ => by unfold vp_updL; split <;> rfl)
          have hP : va_P G.1 classes [(b23, .inl (G.2 1, 4096, .inr (.inl (fun _ => 0)))), (b25, .inl (G.2 1, 80, .inr (.inl (fun _ => 0)))), (b24, .inl (G.2 1, 4096, .inr (.inl (fun _ => 0)))), (b0, .inr (12, [.int 0, .ref b1, .ref b2, .ref b3, .ref b4, .int 0, .ref b5, .int 0, .int 0, .int 0, .int 0, .ref b6, .ref b7, .ref b8, .int 0, .ref b9, .ref b10, .ref b11, .ref b12, .ref b13, .ref b14, .ref b15, .ref b16, .ref b17, .ref b18, .ref b19, .ref b20, .int 0, .ref b21, .ref b22, .int 0, .int 0, .int 0, .int 0, .ref b23, .ref b24, .ref b25, .ref b26, .ref b27, .ref b28, .ref b29, .int 0, .ref b30, .ref b31, .int 0, .ref b32, .ref b33, .ref b34, .ref b35, .ref b36, .int 0, .ref b37, .ref b38, .ref b39])), (b1, .inl (G.2 0, 503, .inl (upd (fun _ => 0) 501 1)))] H := hP
          have hD := z_tie hP hD rfl
          refine lv_aload_n hx hb d_Model_layGoes_207 rfl (lv_at hl 4 rfl) ?_
          refine va_get (D := G.1) (ci := 12) (v := .ref b24) (C := R_Model) (T := F_Model) (N := 54) hx hb hts i_Model hown hK hP 3 rfl rfl 35 (by decide) (hts _ q1148) (fun _ h9 => h9) rfl d_Model_layGoes_208 ?_
          refine lv_iconst (v := 4) hx hb d_Model_layGoes_211 (by decide) ?_
          refine lv_iload_n hx hb d_Model_layGoes_212 rfl (lv_at hl 3 rfl) ?_
          refine lv_imul hx hb d_Model_layGoes_213 ?_
          refine lv_topi (fun v_34 ev_34 => ?_)
          obtain rfl : v_34 = (nI (4 * i_6)) := (by rw [ev_34]; exact pk_mul (4) (i_6))
          refine lv_iload hx hb d_Model_layGoes_214 (lv_at hl 0 rfl) ?_
          refine lv_iadd hx hb d_Model_layGoes_216 ?_
          refine lv_topi (fun v_35 ev_35 => ?_)
          obtain rfl : v_35 = (nI ((4 * i_6) + 1)) := (by rw [ev_35]; exact nI_add ((4 * i_6)) (1))
          refine lv_aload_n hx hb d_Model_layGoes_217 rfl (lv_at hl 4 rfl) ?_
          refine va_get (D := G.1) (ci := 12) (v := .ref b24) (C := R_Model) (T := F_Model) (N := 54) hx hb hts i_Model hown hK hP 3 rfl rfl 35 (by decide) (hts _ q1148) (fun _ h9 => h9) rfl d_Model_layGoes_218 ?_
          refine lv_iconst (v := 4) hx hb d_Model_layGoes_221 (by decide) ?_
          refine lv_iload_n hx hb d_Model_layGoes_222 rfl (lv_at hl 1 rfl) ?_
          refine lv_imul hx hb d_Model_layGoes_223 ?_
          refine lv_topi (fun v_36 ev_36 => ?_)
          obtain rfl : v_36 = (nI (4 * r)) := (by rw [ev_36]; exact pk_mul (4) (r))
          refine lv_iload hx hb d_Model_layGoes_224 (lv_at hl 0 rfl) ?_
          refine lv_iadd hx hb d_Model_layGoes_226 ?_
          refine lv_topi (fun v_37 ev_37 => ?_)
          obtain rfl : v_37 = (nI ((4 * r) + 1)) := (by rw [ev_37]; exact nI_add ((4 * r)) (1))
          refine va_lald hx hb hK hP 2 1 rfl rfl (z_inN (by omega) (by decide)) d_Model_layGoes_227 ?_
          refine z_topl (y := 0) rfl ?_
          refine lv_aload_n hx hb d_Model_layGoes_228 rfl (lv_at hl 4 rfl) ?_
          refine va_get (D := G.1) (ci := 12) (v := .ref b25) (C := R_Model) (T := F_Model) (N := 54) hx hb hts i_Model hown hK hP 3 rfl rfl 36 (by decide) (hts _ q1149) (fun _ h9 => h9) rfl d_Model_layGoes_229 ?_
          refine lv_iconst (v := 4) hx hb d_Model_layGoes_232 (by decide) ?_
          refine lv_iload_n hx hb d_Model_layGoes_233 rfl (lv_at hl 2 rfl) ?_
          refine lv_bipush (v := 10) hx hb d_Model_layGoes_234 (by decide) ?_
          refine lv_iadd hx hb d_Model_layGoes_236 ?_
          refine lv_topi (fun v_38 ev_38 => ?_)
          obtain rfl : v_38 = (nI (T + 10)) := (by rw [ev_38]; exact nI_add (T) (10))
          refine lv_imul hx hb d_Model_layGoes_237 ?_
          refine lv_topi (fun v_39 ev_39 => ?_)
          obtain rfl : v_39 = (nI (4 * (T + 10))) := (by rw [ev_39]; exact pk_mul (4) ((T + 10)))
          refine lv_iload hx hb d_Model_layGoes_238 (lv_at hl 0 rfl) ?_
          refine lv_iadd hx hb d_Model_layGoes_240 ?_
          refine lv_topi (fun v_40 ev_40 => ?_)
          obtain rfl : v_40 = (nI ((4 * (T + 10)) + 1)) := (by rw [ev_40]; exact nI_add ((4 * (T + 10))) (1))
          refine va_lald hx hb hK hP 1 1 rfl rfl (z_inN (by omega) (by decide)) d_Model_layGoes_241 ?_
          refine z_topl (y := 0) rfl ?_
          refine lv_lor hx hb d_Model_layGoes_242 ?_
          refine z_topl (y := 0) (by decide +kernel) ?_
          refine va_last hx hb hK hP hD hS 2 1 rfl rfl (z_inN (by omega) (by decide)) d_Model_layGoes_243 (fun H locs hP hD hS => ?_)
          obtain ⟨hP, hD⟩ := z_extl (g := (fun _ => 0)) 2 hP hD rfl (fun j _ => by unfold vp_updL; split <;> rfl)
          have hP : va_P G.1 classes [(b23, .inl (G.2 1, 4096, .inr (.inl (fun _ => 0)))), (b25, .inl (G.2 1, 80, .inr (.inl (fun _ => 0)))), (b24, .inl (G.2 1, 4096, .inr (.inl (fun _ => 0)))), (b0, .inr (12, [.int 0, .ref b1, .ref b2, .ref b3, .ref b4, .int 0, .ref b5, .int 0, .int 0, .int 0, .int 0, .ref b6, .ref b7, .ref b8, .int 0, .ref b9, .ref b10, .ref b11, .ref b12, .ref b13, .ref b14, .ref b15, .ref b16, .ref b17, .ref b18, .ref b19, .ref b20, .int 0, .ref b21, .ref b22, .int 0, .int 0, .int 0, .int 0, .ref b23, .ref b24, .ref b25, .ref b26, .ref b27, .ref b28, .ref b29, .int 0, .ref b30, .ref b31, .int 0, .ref b32, .ref b33, .ref b34, .ref b35, .ref b36, .int 0, .ref b37, .ref b38, .ref b39])), (b1, .inl (G.2 0, 503, .inl (upd (fun _ => 0) 501 1)))] H := hP
          have hD := z_tie hP hD rfl
          refine lv_iinc (v := 2) (lv' := [(4, .int 2), (3, .int (nI r)), (2, .int (nI T)), (1, .int (nI i_6)), (0, .ref b0)]) hx hb d_Model_layGoes_244 hl (k := 0) rfl (by decide +kernel) (by decide) rfl (fun ls hl => ?_)
          refine lv_goto (tgt := 167) hx hb d_Model_layGoes_247 (by decide) ?_
          refine lv_iload hx hb d_Model_layGoes_167 (lv_at hl 0 rfl) ?_
          refine lv_iconst (v := 4) hx hb d_Model_layGoes_169 (by decide) ?_
          refine lv_icmp_ge (tgt := 250) hx hb d_Model_layGoes_170 (by decide) (fun hc => absurd hc (by decide +kernel)) (fun _ => ?_)
          refine lv_aload_n hx hb d_Model_layGoes_173 rfl (lv_at hl 4 rfl) ?_
          refine va_get (D := G.1) (ci := 12) (v := .ref b23) (C := R_Model) (T := F_Model) (N := 54) hx hb hts i_Model hown hK hP 3 rfl rfl 34 (by decide) (hts _ q1147) (fun _ h9 => h9) rfl d_Model_layGoes_174 ?_
          refine lv_iconst (v := 4) hx hb d_Model_layGoes_177 (by decide) ?_
          refine lv_iload_n hx hb d_Model_layGoes_178 rfl (lv_at hl 3 rfl) ?_
          refine lv_imul hx hb d_Model_layGoes_179 ?_
          refine lv_topi (fun v_41 ev_41 => ?_)
          obtain rfl : v_41 = (nI (4 * i_6)) := (by rw [ev_41]; exact pk_mul (4) (i_6))
          refine lv_iload hx hb d_Model_layGoes_180 (lv_at hl 0 rfl) ?_
          refine lv_iadd hx hb d_Model_layGoes_182 ?_
          refine lv_topi (fun v_42 ev_42 => ?_)
          obtain rfl : v_42 = (nI ((4 * i_6) + 2)) := (by rw [ev_42]; exact nI_add ((4 * i_6)) (2))
          refine lv_aload_n hx hb d_Model_layGoes_183 rfl (lv_at hl 4 rfl) ?_
          refine va_get (D := G.1) (ci := 12) (v := .ref b23) (C := R_Model) (T := F_Model) (N := 54) hx hb hts i_Model hown hK hP 3 rfl rfl 34 (by decide) (hts _ q1147) (fun _ h9 => h9) rfl d_Model_layGoes_184 ?_
          refine lv_iconst (v := 4) hx hb d_Model_layGoes_187 (by decide) ?_
          refine lv_iload_n hx hb d_Model_layGoes_188 rfl (lv_at hl 1 rfl) ?_
          refine lv_imul hx hb d_Model_layGoes_189 ?_
          refine lv_topi (fun v_43 ev_43 => ?_)
          obtain rfl : v_43 = (nI (4 * r)) := (by rw [ev_43]; exact pk_mul (4) (r))
          refine lv_iload hx hb d_Model_layGoes_190 (lv_at hl 0 rfl) ?_
          refine lv_iadd hx hb d_Model_layGoes_192 ?_
          refine lv_topi (fun v_44 ev_44 => ?_)
          obtain rfl : v_44 = (nI ((4 * r) + 2)) := (by rw [ev_44]; exact nI_add ((4 * r)) (2))
          refine va_lald hx hb hK hP 0 1 rfl rfl (z_inN (by omega) (by decide)) d_Model_layGoes_193 ?_
          refine z_topl (y := 0) rfl ?_
          refine lv_aload_n hx hb d_Model_layGoes_194 rfl (lv_at hl 4 rfl) ?_
          refine va_get (D := G.1) (ci := 12) (v := .ref b25) (C := R_Model) (T := F_Model) (N := 54) hx hb hts i_Model hown hK hP 3 rfl rfl 36 (by decide) (hts _ q1149) (fun _ h9 => h9) rfl d_Model_layGoes_195 ?_
          refine lv_iconst (v := 4) hx hb d_Model_layGoes_198 (by decide) ?_
          refine lv_iload_n hx hb d_Model_layGoes_199 rfl (lv_at hl 2 rfl) ?_
          refine lv_imul hx hb d_Model_layGoes_200 ?_
          refine lv_topi (fun v_45 ev_45 => ?_)
          obtain rfl : v_45 = (nI (4 * T)) := (by rw [ev_45]; exact pk_mul (4) (T))
          refine lv_iload hx hb d_Model_layGoes_201 (lv_at hl 0 rfl) ?_
          refine lv_iadd hx hb d_Model_layGoes_203 ?_
          refine lv_topi (fun v_46 ev_46 => ?_)
          obtain rfl : v_46 = (nI ((4 * T) + 2)) := (by rw [ev_46]; exact nI_add ((4 * T)) (2))
          refine va_lald hx hb hK hP 1 1 rfl rfl (z_inN (by omega) (by decide)) d_Model_layGoes_204 ?_
          refine z_topl (y := 0) rfl ?_
          refine lv_lor hx hb d_Model_layGoes_205 ?_
          refine z_topl (y := 0) (by decide +kernel) ?_
          refine va_last hx hb hK hP hD hS 0 1 rfl rfl (z_inN (by omega) (by decide)) d_Model_layGoes_206 (fun H locs hP hD hS => ?_)
          obtain ⟨hP, hD⟩ := z_extl (g := (fun _ => 0)) 0 hP hD rfl (fun j _ => by unfold vp_updL; split <;> rfl)
          have hP : va_P G.1 classes [(b23, .inl (G.2 1, 4096, .inr (.inl (fun _ => 0)))), (b25, .inl (G.2 1, 80, .inr (.inl (fun _ => 0)))), (b24, .inl (G.2 1, 4096, .inr (.inl (fun _ => 0)))), (b0, .inr (12, [.int 0, .ref b1, .ref b2, .ref b3, .ref b4, .int 0, .ref b5, .int 0, .int 0, .int 0, .int 0, .ref b6, .ref b7, .ref b8, .int 0, .ref b9, .ref b10, .ref b11, .ref b12, .ref b13, .ref b14, .ref b15, .ref b16, .ref b17, .ref b18, .ref b19, .ref b20, .int 0, .ref b21, .ref b22, .int 0, .int 0, .int 0, .int 0, .ref b23, .ref b24, .ref b25, .ref b26, .ref b27, .ref b28, .ref b29, .int 0, .ref b30, .ref b31, .int 0, .ref b32, .ref b33, .ref b34, .ref b35, .ref b36, .int 0, .ref b37, .ref b38, .ref b39])), (b1, .inl (G.2 0, 503, .inl (upd (fun _ => 0) 501 1)))] H := hP
          have hD := z_tie hP hD rfl
          refine lv_aload_n hx hb d_Model_layGoes_207 rfl (lv_at hl 4 rfl) ?_
          refine va_get (D := G.1) (ci := 12) (v := .ref b24) (C := R_Model) (T := F_Model) (N := 54) hx hb hts i_Model hown hK hP 3 rfl rfl 35 (by decide) (hts _ q1148) (fun _ h9 => h9) rfl d_Model_layGoes_208 ?_
          refine lv_iconst (v := 4) hx hb d_Model_layGoes_211 (by decide) ?_
          refine lv_iload_n hx hb d_Model_layGoes_212 rfl (lv_at hl 3 rfl) ?_
          refine lv_imul hx hb d_Model_layGoes_213 ?_
          refine lv_topi (fun v_47 ev_47 => ?_)
          obtain rfl : v_47 = (nI (4 * i_6)) := (by rw [ev_47]; exact pk_mul (4) (i_6))
          refine lv_iload hx hb d_Model_layGoes_214 (lv_at hl 0 rfl) ?_
          refine lv_iadd hx hb d_Model_layGoes_216 ?_
          refine lv_topi (fun v_48 ev_48 => ?_)
          obtain rfl : v_48 = (nI ((4 * i_6) + 2)) := (by rw [ev_48]; exact nI_add ((4 * i_6)) (2))
          refine lv_aload_n hx hb d_Model_layGoes_217 rfl (lv_at hl 4 rfl) ?_
          refine va_get (D := G.1) (ci := 12) (v := .ref b24) (C := R_Model) (T := F_Model) (N := 54) hx hb hts i_Model hown hK hP 3 rfl rfl 35 (by decide) (hts _ q1148) (fun _ h9 => h9) rfl d_Model_layGoes_218 ?_
          refine lv_iconst (v := 4) hx hb d_Model_layGoes_221 (by decide) ?_
          refine lv_iload_n hx hb d_Model_layGoes_222 rfl (lv_at hl 1 rfl) ?_
          refine lv_imul hx hb d_Model_layGoes_223 ?_
          refine lv_topi (fun v_49 ev_49 => ?_)
          obtain rfl : v_49 = (nI (4 * r)) := (by rw [ev_49]; exact pk_mul (4) (r))
          refine lv_iload hx hb d_Model_layGoes_224 (lv_at hl 0 rfl) ?_
          refine lv_iadd hx hb d_Model_layGoes_226 ?_
          refine lv_topi (fun v_50 ev_50 => ?_)
          obtain rfl : v_50 = (nI ((4 * r) + 2)) := (by rw [ev_50]; exact nI_add ((4 * r)) (2))
          refine va_lald hx hb hK hP 2 1 rfl rfl (z_inN (by omega) (by decide)) d_Model_layGoes_227 ?_
          refine z_topl (y := 0) rfl ?_
          refine lv_aload_n hx hb d_Model_layGoes_228 rfl (lv_at hl 4 rfl) ?_
          refine va_get (D := G.1) (ci := 12) (v := .ref b25) (C := R_Model) (T := F_Model) (N := 54) hx hb hts i_Model hown hK hP 3 rfl rfl 36 (by decide) (hts _ q1149) (fun _ h9 => h9) rfl d_Model_layGoes_229 ?_
          refine lv_iconst (v := 4) hx hb d_Model_layGoes_232 (by decide) ?_
          refine lv_iload_n hx hb d_Model_layGoes_233 rfl (lv_at hl 2 rfl) ?_
          refine lv_bipush (v := 10) hx hb d_Model_layGoes_234 (by decide) ?_
          refine lv_iadd hx hb d_Model_layGoes_236 ?_
          refine lv_topi (fun v_51 ev_51 => ?_)
          obtain rfl : v_51 = (nI (T + 10)) := (by rw [ev_51]; exact nI_add (T) (10))
          refine lv_imul hx hb d_Model_layGoes_237 ?_
          refine lv_topi (fun v_52 ev_52 => ?_)
          obtain rfl : v_52 = (nI (4 * (T + 10))) := (by rw [ev_52]; exact pk_mul (4) ((T + 10)))
          refine lv_iload hx hb d_Model_layGoes_238 (lv_at hl 0 rfl) ?_
          refine lv_iadd hx hb d_Model_layGoes_240 ?_
          refine lv_topi (fun v_53 ev_53 => ?_)
          obtain rfl : v_53 = (nI ((4 * (T + 10)) + 2)) := (by rw [ev_53]; exact nI_add ((4 * (T + 10))) (2))
          refine va_lald hx hb hK hP 1 1 rfl rfl (z_inN (by omega) (by decide)) d_Model_layGoes_241 ?_
          refine z_topl (y := 0) rfl ?_
          refine lv_lor hx hb d_Model_layGoes_242 ?_
          refine z_topl (y := 0) (by decide +kernel) ?_
          refine va_last hx hb hK hP hD hS 2 1 rfl rfl (z_inN (by omega) (by decide)) d_Model_layGoes_243 (fun H locs hP hD hS => ?_)
          obtain ⟨hP, hD⟩ := z_extl (g := (fun _ => 0)) 2 hP hD rfl (fun j _ => by unfold vp_updL; split <;> rfl)
          have hP : va_P G.1 classes [(b23, .inl (G.2 1, 4096, .inr (.inl (fun _ => 0)))), (b25, .inl (G.2 1, 80, .inr (.inl (fun _ => 0)))), (b24, .inl (G.2 1, 4096, .inr (.inl (fun _ => 0)))), (b0, .inr (12, [.int 0, .ref b1, .ref b2, .ref b3, .ref b4, .int 0, .ref b5, .int 0, .int 0, .int 0, .int 0, .ref b6, .ref b7, .ref b8, .int 0, .ref b9, .ref b10, .ref b11, .ref b12, .ref b13, .ref b14, .ref b15, .ref b16, .ref b17, .ref b18, .ref b19, .ref b20, .int 0, .ref b21, .ref b22, .int 0, .int 0, .int 0, .int 0, .ref b23, .ref b24, .ref b25, .ref b26, .ref b27, .ref b28, .ref b29, .int 0, .ref b30, .ref b31, .int 0, .ref b32, .ref b33, .ref b34, .ref b35, .ref b36, .int 0, .ref b37, .ref b38, .ref b39])), (b1, .inl (G.2 0, 503, .inl (upd (fun _ => 0) 501 1)))] H := hP
          have hD := z_tie hP hD rfl
          refine lv_iinc (v := 3) (lv' := [(4, .int 3), (3, .int (nI r)), (2, .int (nI T)), (1, .int (nI i_6)), (0, .ref b0)]) hx hb d_Model_layGoes_244 hl (k := 0) rfl (by decide +kernel) (by decide) rfl (fun ls hl => ?_)
          refine lv_goto (tgt := 167) hx hb d_Model_layGoes_247 (by decide) ?_
          refine lv_iload hx hb d_Model_layGoes_167 (lv_at hl 0 rfl) ?_
          refine lv_iconst (v := 4) hx hb d_Model_layGoes_169 (by decide) ?_
          refine lv_icmp_ge (tgt := 250) hx hb d_Model_layGoes_170 (by decide) (fun hc => absurd hc (by decide +kernel)) (fun _ => ?_)
          refine lv_aload_n hx hb d_Model_layGoes_173 rfl (lv_at hl 4 rfl) ?_
          refine va_get (D := G.1) (ci := 12) (v := .ref b23) (C := R_Model) (T := F_Model) (N := 54) hx hb hts i_Model hown hK hP 3 rfl rfl 34 (by decide) (hts _ q1147) (fun _ h9 => h9) rfl d_Model_layGoes_174 ?_
          refine lv_iconst (v := 4) hx hb d_Model_layGoes_177 (by decide) ?_
          refine lv_iload_n hx hb d_Model_layGoes_178 rfl (lv_at hl 3 rfl) ?_
          refine lv_imul hx hb d_Model_layGoes_179 ?_
          refine lv_topi (fun v_54 ev_54 => ?_)
          obtain rfl : v_54 = (nI (4 * i_6)) := (by rw [ev_54]; exact pk_mul (4) (i_6))
          refine lv_iload hx hb d_Model_layGoes_180 (lv_at hl 0 rfl) ?_
          refine lv_iadd hx hb d_Model_layGoes_182 ?_
          refine lv_topi (fun v_55 ev_55 => ?_)
          obtain rfl : v_55 = (nI ((4 * i_6) + 3)) := (by rw [ev_55]; exact nI_add ((4 * i_6)) (3))
          refine lv_aload_n hx hb d_Model_layGoes_183 rfl (lv_at hl 4 rfl) ?_
          refine va_get (D := G.1) (ci := 12) (v := .ref b23) (C := R_Model) (T := F_Model) (N := 54) hx hb hts i_Model hown hK hP 3 rfl rfl 34 (by decide) (hts _ q1147) (fun _ h9 => h9) rfl d_Model_layGoes_184 ?_
          refine lv_iconst (v := 4) hx hb d_Model_layGoes_187 (by decide) ?_
          refine lv_iload_n hx hb d_Model_layGoes_188 rfl (lv_at hl 1 rfl) ?_
          refine lv_imul hx hb d_Model_layGoes_189 ?_
          refine lv_topi (fun v_56 ev_56 => ?_)
          obtain rfl : v_56 = (nI (4 * r)) := (by rw [ev_56]; exact pk_mul (4) (r))
          refine lv_iload hx hb d_Model_layGoes_190 (lv_at hl 0 rfl) ?_
          refine lv_iadd hx hb d_Model_layGoes_192 ?_
          refine lv_topi (fun v_57 ev_57 => ?_)
          obtain rfl : v_57 = (nI ((4 * r) + 3)) := (by rw [ev_57]; exact nI_add ((4 * r)) (3))
          refine va_lald hx hb hK hP 0 1 rfl rfl (z_inN (by omega) (by decide)) d_Model_layGoes_193 ?_
          refine z_topl (y := 0) rfl ?_
          refine lv_aload_n hx hb d_Model_layGoes_194 rfl (lv_at hl 4 rfl) ?_
          refine va_get (D := G.1) (ci := 12) (v := .ref b25) (C := R_Model) (T := F_Model) (N := 54) hx hb hts i_Model hown hK hP 3 rfl rfl 36 (by decide) (hts _ q1149) (fun _ h9 => h9) rfl d_Model_layGoes_195 ?_
          refine lv_iconst (v := 4) hx hb d_Model_layGoes_198 (by decide) ?_
          refine lv_iload_n hx hb d_Model_layGoes_199 rfl (lv_at hl 2 rfl) ?_
          refine lv_imul hx hb d_Model_layGoes_200 ?_
          refine lv_topi (fun v_58 ev_58 => ?_)
          obtain rfl : v_58 = (nI (4 * T)) := (by rw [ev_58]; exact pk_mul (4) (T))
          refine lv_iload hx hb d_Model_layGoes_201 (lv_at hl 0 rfl) ?_
          refine lv_iadd hx hb d_Model_layGoes_203 ?_
          refine lv_topi (fun v_59 ev_59 => ?_)
          obtain rfl : v_59 = (nI ((4 * T) + 3)) := (by rw [ev_59]; exact nI_add ((4 * T)) (3))
          refine va_lald hx hb hK hP 1 1 rfl rfl (z_inN (by omega) (by decide)) d_Model_layGoes_204 ?_
          refine z_topl (y := 0) rfl ?_
          refine lv_lor hx hb d_Model_layGoes_205 ?_
          refine z_topl (y := 0) (by decide +kernel) ?_
          refine va_last hx hb hK hP hD hS 0 1 rfl rfl (z_inN (by omega) (by decide)) d_Model_layGoes_206 (fun H locs hP hD hS => ?_)
          obtain ⟨hP, hD⟩ := z_extl (g := (fun _ => 0)) 0 hP hD rfl (fun j _ => by unfold vp_updL; split <;> rfl)
          have hP : va_P G.1 classes [(b23, .inl (G.2 1, 4096, .inr (.inl (fun _ => 0)))), (b25, .inl (G.2 1, 80, .inr (.inl (fun _ => 0)))), (b24, .inl (G.2 1, 4096, .inr (.inl (fun _ => 0)))), (b0, .inr (12, [.int 0, .ref b1, .ref b2, .ref b3, .ref b4, .int 0, .ref b5, .int 0, .int 0, .int 0, .int 0, .ref b6, .ref b7, .ref b8, .int 0, .ref b9, .ref b10, .ref b11, .ref b12, .ref b13, .ref b14, .ref b15, .ref b16, .ref b17, .ref b18, .ref b19, .ref b20, .int 0, .ref b21, .ref b22, .int 0, .int 0, .int 0, .int 0, .ref b23, .ref b24, .ref b25, .ref b26, .ref b27, .ref b28, .ref b29, .int 0, .ref b30, .ref b31, .int 0, .ref b32, .ref b33, .ref b34, .ref b35, .ref b36, .int 0, .ref b37, .ref b38, .ref b39])), (b1, .inl (G.2 0, 503, .inl (upd (fun _ => 0) 501 1)))] H := hP
          have hD := z_tie hP hD rfl
          refine lv_aload_n hx hb d_Model_layGoes_207 rfl (lv_at hl 4 rfl) ?_
          refine va_get (D := G.1) (ci := 12) (v := .ref b24) (C := R_Model) (T := F_Model) (N := 54) hx hb hts i_Model hown hK hP 3 rfl rfl 35 (by decide) (hts _ q1148) (fun _ h9 => h9) rfl d_Model_layGoes_208 ?_
          refine lv_iconst (v := 4) hx hb d_Model_layGoes_211 (by decide) ?_
          refine lv_iload_n hx hb d_Model_layGoes_212 rfl (lv_at hl 3 rfl) ?_
          refine lv_imul hx hb d_Model_layGoes_213 ?_
          refine lv_topi (fun v_60 ev_60 => ?_)
          obtain rfl : v_60 = (nI (4 * i_6)) := (by rw [ev_60]; exact pk_mul (4) (i_6))
          refine lv_iload hx hb d_Model_layGoes_214 (lv_at hl 0 rfl) ?_
          refine lv_iadd hx hb d_Model_layGoes_216 ?_
          refine lv_topi (fun v_61 ev_61 => ?_)
          obtain rfl : v_61 = (nI ((4 * i_6) + 3)) := (by rw [ev_61]; exact nI_add ((4 * i_6)) (3))
          refine lv_aload_n hx hb d_Model_layGoes_217 rfl (lv_at hl 4 rfl) ?_
          refine va_get (D := G.1) (ci := 12) (v := .ref b24) (C := R_Model) (T := F_Model) (N := 54) hx hb hts i_Model hown hK hP 3 rfl rfl 35 (by decide) (hts _ q1148) (fun _ h9 => h9) rfl d_Model_layGoes_218 ?_
          refine lv_iconst (v := 4) hx hb d_Model_layGoes_221 (by decide) ?_
          refine lv_iload_n hx hb d_Model_layGoes_222 rfl (lv_at hl 1 rfl) ?_
          refine lv_imul hx hb d_Model_layGoes_223 ?_
          refine lv_topi (fun v_62 ev_62 => ?_)
          obtain rfl : v_62 = (nI (4 * r)) := (by rw [ev_62]; exact pk_mul (4) (r))
          refine lv_iload hx hb d_Model_layGoes_224 (lv_at hl 0 rfl) ?_
          refine lv_iadd hx hb d_Model_layGoes_226 ?_
          refine lv_topi (fun v_63 ev_63 => ?_)
          obtain rfl : v_63 = (nI ((4 * r) + 3)) := (by rw [ev_63]; exact nI_add ((4 * r)) (3))
          refine va_lald hx hb hK hP 2 1 rfl rfl (z_inN (by omega) (by decide)) d_Model_layGoes_227 ?_
          refine z_topl (y := 0) rfl ?_
          refine lv_aload_n hx hb d_Model_layGoes_228 rfl (lv_at hl 4 rfl) ?_
          refine va_get (D := G.1) (ci := 12) (v := .ref b25) (C := R_Model) (T := F_Model) (N := 54) hx hb hts i_Model hown hK hP 3 rfl rfl 36 (by decide) (hts _ q1149) (fun _ h9 => h9) rfl d_Model_layGoes_229 ?_
          refine lv_iconst (v := 4) hx hb d_Model_layGoes_232 (by decide) ?_
          refine lv_iload_n hx hb d_Model_layGoes_233 rfl (lv_at hl 2 rfl) ?_
          refine lv_bipush (v := 10) hx hb d_Model_layGoes_234 (by decide) ?_
          refine lv_iadd hx hb d_Model_layGoes_236 ?_
          refine lv_topi (fun v_64 ev_64 => ?_)
          obtain rfl : v_64 = (nI (T + 10)) := (by rw [ev_64]; exact nI_add (T) (10))
          refine lv_imul hx hb d_Model_layGoes_237 ?_
          refine lv_topi (fun v_65 ev_65 => ?_)
          obtain rfl : v_65 = (nI (4 * (T + 10))) := (by rw [ev_65]; exact pk_mul (4) ((T + 10)))
          refine lv_iload hx hb d_Model_layGoes_238 (lv_at hl 0 rfl) ?_
          refine lv_iadd hx hb d_Model_layGoes_240 ?_
          refine lv_topi (fun v_66 ev_66 => ?_)
          obtain rfl : v_66 = (nI ((4 * (T + 10)) + 3)) := (by rw [ev_66]; exact nI_add ((4 * (T + 10))) (3))
          refine va_lald hx hb hK hP 1 1 rfl rfl (z_inN (by omega) (by decide)) d_Model_layGoes_241 ?_
          refine z_topl (y := 0) rfl ?_
          refine lv_lor hx hb d_Model_layGoes_242 ?_
          refine z_topl (y := 0) (by decide +kernel) ?_
          refine va_last hx hb hK hP hD hS 2 1 rfl rfl (z_inN (by omega) (by decide)) d_Model_layGoes_243 (fun H locs hP hD hS => ?_)
          obtain ⟨hP, hD⟩ := z_extl (g := (fun _ => 0)) 2 hP hD rfl (fun j _ => by unfold vp_updL; split <;> rfl)
          have hP : va_P G.1 classes [(b23, .inl (G.2 1, 4096, .inr (.inl (fun _ => 0)))), (b25, .inl (G.2 1, 80, .inr (.inl (fun _ => 0)))), (b24, .inl (G.2 1, 4096, .inr (.inl (fun _ => 0)))), (b0, .inr (12, [.int 0, .ref b1, .ref b2, .ref b3, .ref b4, .int 0, .ref b5, .int 0, .int 0, .int 0, .int 0, .ref b6, .ref b7, .ref b8, .int 0, .ref b9, .ref b10, .ref b11, .ref b12, .ref b13, .ref b14, .ref b15, .ref b16, .ref b17, .ref b18, .ref b19, .ref b20, .int 0, .ref b21, .ref b22, .int 0, .int 0, .int 0, .int 0, .ref b23, .ref b24, .ref b25, .ref b26, .ref b27, .ref b28, .ref b29, .int 0, .ref b30, .ref b31, .int 0, .ref b32, .ref b33, .ref b34, .ref b35, .ref b36, .int 0, .ref b37, .ref b38, .ref b39])), (b1, .inl (G.2 0, 503, .inl (upd (fun _ => 0) 501 1)))] H := hP
          have hD := z_tie hP hD rfl
          refine lv_iinc (v := 4) (lv' := [(4, .int 4), (3, .int (nI r)), (2, .int (nI T)), (1, .int (nI i_6)), (0, .ref b0)]) hx hb d_Model_layGoes_244 hl (k := 0) rfl (by decide +kernel) (by decide) rfl (fun ls hl => ?_)
          refine lv_goto (tgt := 167) hx hb d_Model_layGoes_247 (by decide) ?_
          refine lv_iload hx hb d_Model_layGoes_167 (lv_at hl 0 rfl) ?_
          refine lv_iconst (v := 4) hx hb d_Model_layGoes_169 (by decide) ?_
          refine lv_icmp_ge (tgt := 250) hx hb d_Model_layGoes_170 (by decide) (fun _ => ?_) (fun hc => absurd hc (by decide +kernel))
          refine lv_iinc (v := (nI (i_6 + 1))) (lv' := [(1, .int (nI (i_6 + 1))), (4, .int 4), (3, .int (nI r)), (2, .int (nI T)), (0, .ref b0)]) hx hb d_Model_layGoes_250 hl (k := 3) rfl (nI_1 i_6) (by decide) rfl (fun ls hl => ?_)
          refine lv_goto (tgt := 135) hx hb d_Model_layGoes_253 (by decide) ?_
          exact ih (i_6 + 1)  _ _ _ (by omega) (by omega) hP hD hS (lv_sub hl [0, 4] rfl)
        | succ k_10 ih =>
          intro i_9 H locs ls hik hP hD hS hl
          have hilt : i_9 < T := by omega
          refine lv_iload_n hx hb d_Model_layGoes_144 rfl (lv_at hl 1 rfl) ?_
          refine lv_iload_n hx hb d_Model_layGoes_145 rfl (lv_at hl 0 rfl) ?_
          refine lv_ishr hx hb d_Model_layGoes_146 ?_
          refine lv_topi (fun v_67 ev_67 => ?_)
          refine lv_iconst (v := 1) hx hb d_Model_layGoes_147 (by decide) ?_
          refine lv_iand hx hb d_Model_layGoes_148 ?_
          refine lv_topi (fun v_68 ev_68 => ?_)
          refine lv_if_ne (tgt := 158) hx hb d_Model_layGoes_149 (by decide) (fun hc => (hc (by rw [ev_68, ev_67]; exact hT0 _ hilt)).elim) (fun _ => ?_)
          refine lv_iinc (v := (nI (i_9 + 1))) (lv' := [(2, .int (nI (i_9 + 1))), (1, .int (nI i_6)), (0, .ref b0)]) hx hb d_Model_layGoes_152 hl (k := 0) rfl (nI_1 i_9) (by decide) rfl (fun ls hl => ?_)
          refine lv_goto (tgt := 144) hx hb d_Model_layGoes_155 (by decide) ?_
          exact ih (i_9 + 1)  _ _ _ (by omega)  hP hD hS (lv_sub hl [0, 1, 2] rfl)
    | succ k_5 ih =>
      intro i_4 H locs ls hik hP hD hS hl
      have hilt : i_4 < 4096 := by omega
      refine lv_iload_n hx hb d_Model_layGoes_106 rfl (lv_at hl 0 rfl) ?_
      refine lv_sipush (v := 4096) hx hb d_Model_layGoes_107 (by decide) ?_
      refine lv_icmp_ge (tgt := 133) hx hb d_Model_layGoes_110 (by decide) (fun hc => absurd hc (nI_ge hilt (by decide))) (fun _ => ?_)
      refine lv_aload_n hx hb d_Model_layGoes_113 rfl (lv_at hl 1 rfl) ?_
      refine va_get (D := G.1) (ci := 12) (v := .ref b23) (C := R_Model) (T := F_Model) (N := 54) hx hb hts i_Model hown hK hP 3 rfl rfl 34 (by decide) (hts _ q1147) (fun _ h9 => h9) rfl d_Model_layGoes_114 ?_
      refine lv_iload_n hx hb d_Model_layGoes_117 rfl (lv_at hl 0 rfl) ?_
      refine lv_lconst (v := 0) hx hb d_Model_layGoes_118 (by decide) ?_
      refine va_last hx hb hK hP hD hS 0 1 rfl rfl (z_inN (by omega) (by decide)) d_Model_layGoes_119 (fun H locs hP hD hS => ?_)
      obtain ⟨hP, hD⟩ := z_extl (g := (fun _ => 0)) 0 hP hD rfl (fun j _ => by unfold vp_updL; split <;> rfl)
      have hP : va_P G.1 classes [(b23, .inl (G.2 1, 4096, .inr (.inl (fun _ => 0)))), (b25, .inl (G.2 1, 80, .inr (.inl (fun _ => 0)))), (b24, .inl (G.2 1, 4096, .inr (.inl (fun _ => 0)))), (b0, .inr (12, [.int 0, .ref b1, .ref b2, .ref b3, .ref b4, .int 0, .ref b5, .int 0, .int 0, .int 0, .int 0, .ref b6, .ref b7, .ref b8, .int 0, .ref b9, .ref b10, .ref b11, .ref b12, .ref b13, .ref b14, .ref b15, .ref b16, .ref b17, .ref b18, .ref b19, .ref b20, .int 0, .ref b21, .ref b22, .int 0, .int 0, .int 0, .int 0, .ref b23, .ref b24, .ref b25, .ref b26, .ref b27, .ref b28, .ref b29, .int 0, .ref b30, .ref b31, .int 0, .ref b32, .ref b33, .ref b34, .ref b35, .ref b36, .int 0, .ref b37, .ref b38, .ref b39])), (b1, .inl (G.2 0, 503, .inl (upd (fun _ => 0) 501 1)))] H := hP
      have hD := z_tie hP hD rfl
      refine lv_aload_n hx hb d_Model_layGoes_120 rfl (lv_at hl 1 rfl) ?_
      refine va_get (D := G.1) (ci := 12) (v := .ref b24) (C := R_Model) (T := F_Model) (N := 54) hx hb hts i_Model hown hK hP 3 rfl rfl 35 (by decide) (hts _ q1148) (fun _ h9 => h9) rfl d_Model_layGoes_121 ?_
      refine lv_iload_n hx hb d_Model_layGoes_124 rfl (lv_at hl 0 rfl) ?_
      refine lv_lconst (v := 0) hx hb d_Model_layGoes_125 (by decide) ?_
      refine va_last hx hb hK hP hD hS 2 1 rfl rfl (z_inN (by omega) (by decide)) d_Model_layGoes_126 (fun H locs hP hD hS => ?_)
      obtain ⟨hP, hD⟩ := z_extl (g := (fun _ => 0)) 2 hP hD rfl (fun j _ => by unfold vp_updL; split <;> rfl)
      have hP : va_P G.1 classes [(b23, .inl (G.2 1, 4096, .inr (.inl (fun _ => 0)))), (b25, .inl (G.2 1, 80, .inr (.inl (fun _ => 0)))), (b24, .inl (G.2 1, 4096, .inr (.inl (fun _ => 0)))), (b0, .inr (12, [.int 0, .ref b1, .ref b2, .ref b3, .ref b4, .int 0, .ref b5, .int 0, .int 0, .int 0, .int 0, .ref b6, .ref b7, .ref b8, .int 0, .ref b9, .ref b10, .ref b11, .ref b12, .ref b13, .ref b14, .ref b15, .ref b16, .ref b17, .ref b18, .ref b19, .ref b20, .int 0, .ref b21, .ref b22, .int 0, .int 0, .int 0, .int 0, .ref b23, .ref b24, .ref b25, .ref b26, .ref b27, .ref b28, .ref b29, .int 0, .ref b30, .ref b31, .int 0, .ref b32, .ref b33, .ref b34, .ref b35, .ref b36, .int 0, .ref b37, .ref b38, .ref b39])), (b1, .inl (G.2 0, 503, .inl (upd (fun _ => 0) 501 1)))] H := hP
      have hD := z_tie hP hD rfl
      refine lv_iinc (v := (nI (i_4 + 1))) (lv' := [(1, .int (nI (i_4 + 1))), (0, .ref b0)]) hx hb d_Model_layGoes_127 hl (k := 0) rfl (nI_1 i_4) (by decide) rfl (fun ls hl => ?_)
      refine lv_goto (tgt := 106) hx hb d_Model_layGoes_130 (by decide) ?_
      exact ih (i_4 + 1)  _ _ _ (by omega)  hP hD hS (lv_sub hl [0, 1] rfl)
  | succ k_2 ih =>
    intro i_1 H locs ls hik hP hD hS hl
    have hilt : i_1 < 80 := by omega
    refine lv_iload_n hx hb d_Model_layGoes_2 rfl (lv_at hl 0 rfl) ?_
    refine lv_bipush (v := 80) hx hb d_Model_layGoes_3 (by decide) ?_
    refine lv_icmp_ge (tgt := 21) hx hb d_Model_layGoes_5 (by decide) (fun hc => absurd hc (nI_ge hilt (by decide))) (fun _ => ?_)
    refine lv_aload_n hx hb d_Model_layGoes_8 rfl (lv_at hl 1 rfl) ?_
    refine va_get (D := G.1) (ci := 12) (v := .ref b25) (C := R_Model) (T := F_Model) (N := 54) hx hb hts i_Model hown hK hP 0 rfl rfl 36 (by decide) (hts _ q1149) (fun _ h9 => h9) rfl d_Model_layGoes_9 ?_
    refine lv_iload_n hx hb d_Model_layGoes_12 rfl (lv_at hl 0 rfl) ?_
    refine lv_lconst (v := 0) hx hb d_Model_layGoes_13 (by decide) ?_
    refine va_last hx hb hK hP hD hS 3 1 rfl rfl (z_inN (by omega) (by decide)) d_Model_layGoes_14 (fun H locs hP hD hS => ?_)
    obtain ⟨hP, hD⟩ := z_extl (g := (fun _ => 0)) 3 hP hD rfl (fun j _ => by unfold vp_updL; split <;> rfl)
    have hP : va_P G.1 classes [(b0, .inr (12, [.int 0, .ref b1, .ref b2, .ref b3, .ref b4, .int 0, .ref b5, .int 0, .int 0, .int 0, .int 0, .ref b6, .ref b7, .ref b8, .int 0, .ref b9, .ref b10, .ref b11, .ref b12, .ref b13, .ref b14, .ref b15, .ref b16, .ref b17, .ref b18, .ref b19, .ref b20, .int 0, .ref b21, .ref b22, .int 0, .int 0, .int 0, .int 0, .ref b23, .ref b24, .ref b25, .ref b26, .ref b27, .ref b28, .ref b29, .int 0, .ref b30, .ref b31, .int 0, .ref b32, .ref b33, .ref b34, .ref b35, .ref b36, .int 0, .ref b37, .ref b38, .ref b39])), (b1, .inl (G.2 0, 503, .inl (upd (fun _ => 0) 501 1))), (b23, .inl (G.2 1, 4096, .inr (.inl (fun _ => 0)))), (b25, .inl (G.2 1, 80, .inr (.inl (fun _ => 0)))), (b24, .inl (G.2 1, 4096, .inr (.inl (fun _ => 0))))] H := hP
    have hD := z_tie hP hD rfl
    refine lv_iinc (v := (nI (i_1 + 1))) (lv' := [(1, .int (nI (i_1 + 1))), (0, .ref b0)]) hx hb d_Model_layGoes_15 hl (k := 0) rfl (nI_1 i_1) (by decide) rfl (fun ls hl => ?_)
    refine lv_goto (tgt := 2) hx hb d_Model_layGoes_18 (by decide) ?_
    exact ih (i_1 + 1)  _ _ _ (by omega)  hP hD hS (lv_sub hl [0, 1] rfl)
theorem d_Model_cover_25 : decode prog_14_method_57_code 25 = .ok (.iconst 0, 1) := by decide +kernel
theorem d_Model_cover_26 : decode prog_14_method_57_code 26 = .ok (.istore_n 2, 1) := by decide +kernel
theorem d_Model_cover_27 : decode prog_14_method_57_code 27 = .ok (.bipush 21, 2) := by decide +kernel
theorem d_Model_cover_29 : decode prog_14_method_57_code 29 = .ok (.istore_n 3, 1) := by decide +kernel
theorem d_Model_cover_30 : decode prog_14_method_57_code 30 = .ok (.iconst 0, 1) := by decide +kernel
theorem d_Model_cover_31 : decode prog_14_method_57_code 31 = .ok (.istore 4, 2) := by decide +kernel
theorem d_Model_cover_33 : decode prog_14_method_57_code 33 = .ok (.iload 4, 2) := by decide +kernel
theorem d_Model_cover_35 : decode prog_14_method_57_code 35 = .ok (.iconst 1, 1) := by decide +kernel
theorem d_Model_cover_36 : decode prog_14_method_57_code 36 = .ok (.aload_n 0, 1) := by decide +kernel
theorem d_Model_cover_37 : decode prog_14_method_57_code 37 = .ok (.invokevirtual 134, 3) := by decide +kernel
theorem d_Model_cover_40 : decode prog_14_method_57_code 40 = .ok (.ishl, 1) := by decide +kernel
theorem d_Model_cover_41 : decode prog_14_method_57_code 41 = .ok (.if_icmp .ge 37, 3) := by decide +kernel
theorem d_Model_cover_44 : decode prog_14_method_57_code 44 = .ok (.iload 4, 2) := by decide +kernel
theorem d_Model_cover_46 : decode prog_14_method_57_code 46 = .ok (.invokestatic 308, 3) := by decide +kernel
theorem d_Model_ones_0 : decode prog_14_method_54_code 0 = .ok (.iconst 0, 1) := by decide +kernel
theorem d_Model_ones_1 : decode prog_14_method_54_code 1 = .ok (.istore_n 1, 1) := by decide +kernel
theorem d_Model_ones_2 : decode prog_14_method_54_code 2 = .ok (.iload_n 0, 1) := by decide +kernel
theorem d_Model_ones_3 : decode prog_14_method_54_code 3 = .ok (.istore_n 2, 1) := by decide +kernel
theorem d_Model_ones_4 : decode prog_14_method_54_code 4 = .ok (.iload_n 2, 1) := by decide +kernel
theorem d_Model_ones_5 : decode prog_14_method_54_code 5 = .ok (.ifCond .eq 15, 3) := by decide +kernel
theorem d_Model_ones_20 : decode prog_14_method_54_code 20 = .ok (.iload_n 1, 1) := by decide +kernel
theorem d_Model_ones_21 : decode prog_14_method_54_code 21 = .ok (.ireturn, 1) := by decide +kernel
abbrev m_c1_Model_ones : Room := { frames := 0, cells := 0, slots := 0, locals := 0 }
set_option maxHeartbeats 4000000 in
set_option maxRecDepth 100000 in
theorem c1_Model_ones (l : Launch) (G : zG)   : zM l G y_Model_ones prog_14_method_54_code 3 (Option.some Jvm.ClassFile.FieldType.int) m_c1_Model_ones [.int 0] [] (fun v w => (v = some (.int 0) ∧ w = [])) := by
  refine z_start (by decide +kernel) (Nat.le_of_ble_eq_true rfl) ?_
  intro p e s m below meth c A Z hr hnm hA hP hD hS ls hl
  have Z : zC p s m _ meth c prog_14_method_54_code 3 "TraceMachinesModel" G := Z
  obtain ⟨hx, hb, hml, hown, hts, hK, hN, hlocks⟩ := id Z
  have hl : lv_has ls 3 [(0, .int 0)] := hl
  refine lv_iconst (v := 0) hx hb d_Model_ones_0 (by decide) ?_
  refine lv_istore_n (lv' := [(1, .int 0), (0, .int 0)]) hx hb d_Model_ones_1 rfl hl (by decide) rfl (fun ls hl => ?_)
  refine lv_iload_n hx hb d_Model_ones_2 rfl (lv_at hl 1 rfl) ?_
  refine lv_istore_n (lv' := [(2, .int 0), (1, .int 0), (0, .int 0)]) hx hb d_Model_ones_3 rfl hl (by decide) rfl (fun ls hl => ?_)
  refine lv_iload_n hx hb d_Model_ones_4 rfl (lv_at hl 0 rfl) ?_
  refine lv_if_eq (tgt := 20) hx hb d_Model_ones_5 (by decide) (fun _ => ?_) (fun hc => absurd hc (by decide +kernel))
  refine lv_iload_n hx hb d_Model_ones_20 rfl (lv_at hl 1 rfl) ?_
  exact z_iret hx hb hr hlocks hP hD hS (Nat.le_of_ble_eq_true rfl) (Nat.le_of_ble_eq_true rfl) d_Model_ones_21 ⟨rfl, rfl⟩
theorem d_Model_cover_49 : decode prog_14_method_57_code 49 = .ok (.istore 5, 2) := by decide +kernel
theorem d_Model_cover_51 : decode prog_14_method_57_code 51 = .ok (.iload 5, 2) := by decide +kernel
theorem d_Model_cover_53 : decode prog_14_method_57_code 53 = .ok (.iload_n 3, 1) := by decide +kernel
theorem d_Model_cover_54 : decode prog_14_method_57_code 54 = .ok (.if_icmp .ge 18, 3) := by decide +kernel
theorem d_Model_cover_57 : decode prog_14_method_57_code 57 = .ok (.aload_n 0, 1) := by decide +kernel
theorem d_Model_cover_58 : decode prog_14_method_57_code 58 = .ok (.iload 4, 2) := by decide +kernel
theorem d_Model_cover_60 : decode prog_14_method_57_code 60 = .ok (.invokevirtual 311, 3) := by decide +kernel
theorem d_Model_coversAll_0 : decode prog_14_method_56_code 0 = .ok (.iconst 4, 1) := by decide +kernel
theorem d_Model_coversAll_1 : decode prog_14_method_56_code 1 = .ok (.iload_n 1, 1) := by decide +kernel
theorem d_Model_coversAll_2 : decode prog_14_method_56_code 2 = .ok (.sipush 1023, 3) := by decide +kernel
theorem d_Model_coversAll_5 : decode prog_14_method_56_code 5 = .ok (.iand, 1) := by decide +kernel
theorem d_Model_coversAll_6 : decode prog_14_method_56_code 6 = .ok (.imul, 1) := by decide +kernel
theorem d_Model_coversAll_7 : decode prog_14_method_56_code 7 = .ok (.istore_n 2, 1) := by decide +kernel
theorem d_Model_coversAll_8 : decode prog_14_method_56_code 8 = .ok (.iconst 4, 1) := by decide +kernel
theorem d_Model_coversAll_9 : decode prog_14_method_56_code 9 = .ok (.iload_n 1, 1) := by decide +kernel
theorem d_Model_coversAll_10 : decode prog_14_method_56_code 10 = .ok (.bipush 10, 2) := by decide +kernel
theorem d_Model_coversAll_12 : decode prog_14_method_56_code 12 = .ok (.ishr, 1) := by decide +kernel
theorem d_Model_coversAll_13 : decode prog_14_method_56_code 13 = .ok (.imul, 1) := by decide +kernel
theorem d_Model_coversAll_14 : decode prog_14_method_56_code 14 = .ok (.istore_n 3, 1) := by decide +kernel
theorem d_Model_coversAll_15 : decode prog_14_method_56_code 15 = .ok (.iconst 1, 1) := by decide +kernel
theorem d_Model_coversAll_16 : decode prog_14_method_56_code 16 = .ok (.istore 4, 2) := by decide +kernel
theorem d_Model_coversAll_18 : decode prog_14_method_56_code 18 = .ok (.iconst 0, 1) := by decide +kernel
theorem d_Model_coversAll_19 : decode prog_14_method_56_code 19 = .ok (.istore 5, 2) := by decide +kernel
theorem d_Model_coversAll_21 : decode prog_14_method_56_code 21 = .ok (.iload 5, 2) := by decide +kernel
theorem d_Model_coversAll_23 : decode prog_14_method_56_code 23 = .ok (.iconst 4, 1) := by decide +kernel
theorem d_Model_coversAll_24 : decode prog_14_method_56_code 24 = .ok (.if_icmp .ge 67, 3) := by decide +kernel
theorem d_Model_coversAll_27 : decode prog_14_method_56_code 27 = .ok (.iload 4, 2) := by decide +kernel
theorem d_Model_coversAll_29 : decode prog_14_method_56_code 29 = .ok (.ifCond .eq 53, 3) := by decide +kernel
theorem d_Model_coversAll_32 : decode prog_14_method_56_code 32 = .ok (.aload_n 0, 1) := by decide +kernel
theorem d_Model_coversAll_33 : decode prog_14_method_56_code 33 = .ok (.getfield 83, 3) := by decide +kernel
theorem d_Model_coversAll_36 : decode prog_14_method_56_code 36 = .ok (.iload_n 2, 1) := by decide +kernel
theorem d_Model_coversAll_37 : decode prog_14_method_56_code 37 = .ok (.iload 5, 2) := by decide +kernel
theorem d_Model_coversAll_39 : decode prog_14_method_56_code 39 = .ok (.iadd, 1) := by decide +kernel
theorem d_Model_coversAll_40 : decode prog_14_method_56_code 40 = .ok (.laload, 1) := by decide +kernel
theorem d_Model_coversAll_41 : decode prog_14_method_56_code 41 = .ok (.aload_n 0, 1) := by decide +kernel
theorem d_Model_coversAll_42 : decode prog_14_method_56_code 42 = .ok (.getfield 86, 3) := by decide +kernel
theorem d_Model_coversAll_45 : decode prog_14_method_56_code 45 = .ok (.iload_n 3, 1) := by decide +kernel
theorem d_Model_coversAll_46 : decode prog_14_method_56_code 46 = .ok (.iload 5, 2) := by decide +kernel
theorem d_Model_coversAll_48 : decode prog_14_method_56_code 48 = .ok (.iadd, 1) := by decide +kernel
theorem d_Model_coversAll_49 : decode prog_14_method_56_code 49 = .ok (.laload, 1) := by decide +kernel
theorem d_Model_coversAll_50 : decode prog_14_method_56_code 50 = .ok (.lor, 1) := by decide +kernel
theorem d_Model_coversAll_51 : decode prog_14_method_56_code 51 = .ok (.aload_n 0, 1) := by decide +kernel
theorem d_Model_coversAll_52 : decode prog_14_method_56_code 52 = .ok (.getfield 83, 3) := by decide +kernel
theorem d_Model_coversAll_55 : decode prog_14_method_56_code 55 = .ok (.sipush 4092, 3) := by decide +kernel
theorem d_Model_coversAll_58 : decode prog_14_method_56_code 58 = .ok (.iload 5, 2) := by decide +kernel
theorem d_Model_coversAll_60 : decode prog_14_method_56_code 60 = .ok (.iadd, 1) := by decide +kernel
theorem d_Model_coversAll_61 : decode prog_14_method_56_code 61 = .ok (.laload, 1) := by decide +kernel
theorem d_Model_coversAll_62 : decode prog_14_method_56_code 62 = .ok (.aload_n 0, 1) := by decide +kernel
theorem d_Model_coversAll_63 : decode prog_14_method_56_code 63 = .ok (.getfield 86, 3) := by decide +kernel
theorem d_Model_coversAll_66 : decode prog_14_method_56_code 66 = .ok (.sipush 4092, 3) := by decide +kernel
theorem d_Model_coversAll_69 : decode prog_14_method_56_code 69 = .ok (.iload 5, 2) := by decide +kernel
theorem d_Model_coversAll_71 : decode prog_14_method_56_code 71 = .ok (.iadd, 1) := by decide +kernel
theorem d_Model_coversAll_72 : decode prog_14_method_56_code 72 = .ok (.laload, 1) := by decide +kernel
theorem d_Model_coversAll_73 : decode prog_14_method_56_code 73 = .ok (.lor, 1) := by decide +kernel
theorem d_Model_coversAll_74 : decode prog_14_method_56_code 74 = .ok (.lcmp, 1) := by decide +kernel
theorem d_Model_coversAll_75 : decode prog_14_method_56_code 75 = .ok (.ifCond .ne 7, 3) := by decide +kernel
theorem d_Model_coversAll_78 : decode prog_14_method_56_code 78 = .ok (.iconst 1, 1) := by decide +kernel
theorem d_Model_coversAll_79 : decode prog_14_method_56_code 79 = .ok (.goto 4, 3) := by decide +kernel
theorem d_Model_coversAll_83 : decode prog_14_method_56_code 83 = .ok (.istore 4, 2) := by decide +kernel
theorem d_Model_coversAll_85 : decode prog_14_method_56_code 85 = .ok (.iinc 5 1, 3) := by decide +kernel
theorem d_Model_coversAll_88 : decode prog_14_method_56_code 88 = .ok (.goto (-67), 3) := by decide +kernel
theorem d_Model_coversAll_91 : decode prog_14_method_56_code 91 = .ok (.iload 4, 2) := by decide +kernel
theorem d_Model_coversAll_93 : decode prog_14_method_56_code 93 = .ok (.ireturn, 1) := by decide +kernel
abbrev m_c1_Model_coversAll : Room := { frames := 0, cells := 0, slots := 0, locals := 0 }
set_option maxHeartbeats 4000000 in
set_option maxRecDepth 100000 in
theorem c1_Model_coversAll (l : Launch) (G : zG) (b0 : Nat) (b1 : Nat) (b2 : Nat) (b3 : Nat) (b4 : Nat) (b5 : Nat) (b6 : Nat) (b7 : Nat) (b8 : Nat) (b9 : Nat) (b10 : Nat) (b11 : Nat) (b12 : Nat) (b13 : Nat) (b14 : Nat) (b15 : Nat) (b16 : Nat) (b17 : Nat) (b18 : Nat) (b19 : Nat) (b20 : Nat) (b21 : Nat) (b22 : Nat) (b23 : Nat) (b24 : Nat) (b25 : Nat) (b26 : Nat) (b27 : Nat) (b28 : Nat) (b29 : Nat) (b30 : Nat) (b31 : Nat) (b32 : Nat) (b33 : Nat) (b34 : Nat) (b35 : Nat) (b36 : Nat) (b37 : Nat) (b38 : Nat) (b39 : Nat)  : zM l G y_Model_coversAll prog_14_method_56_code 6 (Option.some Jvm.ClassFile.FieldType.boolean) m_c1_Model_coversAll [.ref b0, .int 0] [(b0, .inr (12, [.int 0, .ref b1, .ref b2, .ref b3, .ref b4, .int 0, .ref b5, .int 0, .int 0, .int 0, .int 0, .ref b6, .ref b7, .ref b8, .int 0, .ref b9, .ref b10, .ref b11, .ref b12, .ref b13, .ref b14, .ref b15, .ref b16, .ref b17, .ref b18, .ref b19, .ref b20, .int 0, .ref b21, .ref b22, .int 0, .int 0, .int 0, .int 0, .ref b23, .ref b24, .ref b25, .ref b26, .ref b27, .ref b28, .ref b29, .int 0, .ref b30, .ref b31, .int 0, .ref b32, .ref b33, .ref b34, .ref b35, .ref b36, .int 0, .ref b37, .ref b38, .ref b39])), (b23, .inl (G.2 1, 4096, .inr (.inl (fun _ => 0)))), (b24, .inl (G.2 1, 4096, .inr (.inl (fun _ => 0))))] (fun v w => (v = some (.int 1) ∧ w = [(b0, .inr (12, [.int 0, .ref b1, .ref b2, .ref b3, .ref b4, .int 0, .ref b5, .int 0, .int 0, .int 0, .int 0, .ref b6, .ref b7, .ref b8, .int 0, .ref b9, .ref b10, .ref b11, .ref b12, .ref b13, .ref b14, .ref b15, .ref b16, .ref b17, .ref b18, .ref b19, .ref b20, .int 0, .ref b21, .ref b22, .int 0, .int 0, .int 0, .int 0, .ref b23, .ref b24, .ref b25, .ref b26, .ref b27, .ref b28, .ref b29, .int 0, .ref b30, .ref b31, .int 0, .ref b32, .ref b33, .ref b34, .ref b35, .ref b36, .int 0, .ref b37, .ref b38, .ref b39])), (b23, .inl (G.2 1, 4096, .inr (.inl (fun _ => 0)))), (b24, .inl (G.2 1, 4096, .inr (.inl (fun _ => 0))))])) := by
  refine z_start (by decide +kernel) (Nat.le_of_ble_eq_true rfl) ?_
  intro p e s m below meth c A Z hr hnm hA hP hD hS ls hl
  have Z : zC p s m _ meth c prog_14_method_56_code 6 "TraceMachinesModel" G := Z
  obtain ⟨hx, hb, hml, hown, hts, hK, hN, hlocks⟩ := id Z
  have hl : lv_has ls 6 [(0, .ref b0), (1, .int 0)] := hl
  refine lv_iconst (v := 4) hx hb d_Model_coversAll_0 (by decide) ?_
  refine lv_iload_n hx hb d_Model_coversAll_1 rfl (lv_at hl 1 rfl) ?_
  refine lv_sipush (v := 1023) hx hb d_Model_coversAll_2 (by decide) ?_
  refine lv_iand hx hb d_Model_coversAll_5 ?_
  refine z_topi (y := 0) (by decide +kernel) ?_
  refine lv_imul hx hb d_Model_coversAll_6 ?_
  refine z_topi (y := 0) (by decide +kernel) ?_
  refine lv_istore_n (lv' := [(2, .int 0), (0, .ref b0), (1, .int 0)]) hx hb d_Model_coversAll_7 rfl hl (by decide) rfl (fun ls hl => ?_)
  refine lv_iconst (v := 4) hx hb d_Model_coversAll_8 (by decide) ?_
  refine lv_iload_n hx hb d_Model_coversAll_9 rfl (lv_at hl 2 rfl) ?_
  refine lv_bipush (v := 10) hx hb d_Model_coversAll_10 (by decide) ?_
  refine lv_ishr hx hb d_Model_coversAll_12 ?_
  refine z_topi (y := 0) (by decide +kernel) ?_
  refine lv_imul hx hb d_Model_coversAll_13 ?_
  refine z_topi (y := 0) (by decide +kernel) ?_
  refine lv_istore_n (lv' := [(3, .int 0), (2, .int 0), (0, .ref b0), (1, .int 0)]) hx hb d_Model_coversAll_14 rfl hl (by decide) rfl (fun ls hl => ?_)
  refine lv_iconst (v := 1) hx hb d_Model_coversAll_15 (by decide) ?_
  refine lv_istore (lv' := [(4, .int 1), (3, .int 0), (2, .int 0), (0, .ref b0), (1, .int 0)]) hx hb d_Model_coversAll_16 hl (by decide) rfl (fun ls hl => ?_)
  refine lv_iconst (v := 0) hx hb d_Model_coversAll_18 (by decide) ?_
  refine lv_istore (lv' := [(5, .int 0), (4, .int 1), (3, .int 0), (2, .int 0), (0, .ref b0), (1, .int 0)]) hx hb d_Model_coversAll_19 hl (by decide) rfl (fun ls hl => ?_)
  refine lv_iload hx hb d_Model_coversAll_21 (lv_at hl 0 rfl) ?_
  refine lv_iconst (v := 4) hx hb d_Model_coversAll_23 (by decide) ?_
  refine lv_icmp_ge (tgt := 91) hx hb d_Model_coversAll_24 (by decide) (fun hc => absurd hc (by decide +kernel)) (fun _ => ?_)
  refine lv_iload hx hb d_Model_coversAll_27 (lv_at hl 1 rfl) ?_
  refine lv_if_eq (tgt := 82) hx hb d_Model_coversAll_29 (by decide) (fun hc => absurd hc (by decide +kernel)) (fun _ => ?_)
  refine lv_aload_n hx hb d_Model_coversAll_32 rfl (lv_at hl 4 rfl) ?_
  refine va_get (D := G.1) (ci := 12) (v := .ref b23) (C := R_Model) (T := F_Model) (N := 54) hx hb hts i_Model hown hK hP 0 rfl rfl 34 (by decide) (hts _ q1147) (fun _ h9 => h9) rfl d_Model_coversAll_33 ?_
  refine lv_iload_n hx hb d_Model_coversAll_36 rfl (lv_at hl 3 rfl) ?_
  refine lv_iload hx hb d_Model_coversAll_37 (lv_at hl 0 rfl) ?_
  refine lv_iadd hx hb d_Model_coversAll_39 ?_
  refine z_topi (y := 0) (by decide +kernel) ?_
  refine va_lald hx hb hK hP 1 1 rfl rfl (i := 0) (z_in rfl) d_Model_coversAll_40 ?_
  refine z_topl (y := 0) rfl ?_
  refine lv_aload_n hx hb d_Model_coversAll_41 rfl (lv_at hl 4 rfl) ?_
  refine va_get (D := G.1) (ci := 12) (v := .ref b24) (C := R_Model) (T := F_Model) (N := 54) hx hb hts i_Model hown hK hP 0 rfl rfl 35 (by decide) (hts _ q1148) (fun _ h9 => h9) rfl d_Model_coversAll_42 ?_
  refine lv_iload_n hx hb d_Model_coversAll_45 rfl (lv_at hl 2 rfl) ?_
  refine lv_iload hx hb d_Model_coversAll_46 (lv_at hl 0 rfl) ?_
  refine lv_iadd hx hb d_Model_coversAll_48 ?_
  refine z_topi (y := 0) (by decide +kernel) ?_
  refine va_lald hx hb hK hP 2 1 rfl rfl (i := 0) (z_in rfl) d_Model_coversAll_49 ?_
  refine z_topl (y := 0) rfl ?_
  refine lv_lor hx hb d_Model_coversAll_50 ?_
  refine z_topl (y := 0) (by decide +kernel) ?_
  refine lv_aload_n hx hb d_Model_coversAll_51 rfl (lv_at hl 4 rfl) ?_
  refine va_get (D := G.1) (ci := 12) (v := .ref b23) (C := R_Model) (T := F_Model) (N := 54) hx hb hts i_Model hown hK hP 0 rfl rfl 34 (by decide) (hts _ q1147) (fun _ h9 => h9) rfl d_Model_coversAll_52 ?_
  refine lv_sipush (v := 4092) hx hb d_Model_coversAll_55 (by decide) ?_
  refine lv_iload hx hb d_Model_coversAll_58 (lv_at hl 0 rfl) ?_
  refine lv_iadd hx hb d_Model_coversAll_60 ?_
  refine z_topi (y := 4092) (by decide +kernel) ?_
  refine va_lald hx hb hK hP 1 1 rfl rfl (i := 4092) (z_in rfl) d_Model_coversAll_61 ?_
  refine z_topl (y := 0) rfl ?_
  refine lv_aload_n hx hb d_Model_coversAll_62 rfl (lv_at hl 4 rfl) ?_
  refine va_get (D := G.1) (ci := 12) (v := .ref b24) (C := R_Model) (T := F_Model) (N := 54) hx hb hts i_Model hown hK hP 0 rfl rfl 35 (by decide) (hts _ q1148) (fun _ h9 => h9) rfl d_Model_coversAll_63 ?_
  refine lv_sipush (v := 4092) hx hb d_Model_coversAll_66 (by decide) ?_
  refine lv_iload hx hb d_Model_coversAll_69 (lv_at hl 0 rfl) ?_
  refine lv_iadd hx hb d_Model_coversAll_71 ?_
  refine z_topi (y := 4092) (by decide +kernel) ?_
  refine va_lald hx hb hK hP 2 1 rfl rfl (i := 4092) (z_in rfl) d_Model_coversAll_72 ?_
  refine z_topl (y := 0) rfl ?_
  refine lv_lor hx hb d_Model_coversAll_73 ?_
  refine z_topl (y := 0) (by decide +kernel) ?_
  refine W.lcmp hx hb d_Model_coversAll_74 ?_
  refine z_topi (y := 0) (by decide +kernel) ?_
  refine lv_if_ne (tgt := 82) hx hb d_Model_coversAll_75 (by decide) (fun hc => absurd hc (by decide +kernel)) (fun _ => ?_)
  refine lv_iconst (v := 1) hx hb d_Model_coversAll_78 (by decide) ?_
  refine lv_goto (tgt := 83) hx hb d_Model_coversAll_79 (by decide) ?_
  refine lv_istore (lv' := [(4, .int 1), (5, .int 0), (3, .int 0), (2, .int 0), (0, .ref b0), (1, .int 0)]) hx hb d_Model_coversAll_83 hl (by decide) rfl (fun ls hl => ?_)
  refine lv_iinc (v := 1) (lv' := [(5, .int 1), (4, .int 1), (3, .int 0), (2, .int 0), (0, .ref b0), (1, .int 0)]) hx hb d_Model_coversAll_85 hl (k := 1) rfl (by decide +kernel) (by decide) rfl (fun ls hl => ?_)
  refine lv_goto (tgt := 21) hx hb d_Model_coversAll_88 (by decide) ?_
  refine lv_iload hx hb d_Model_coversAll_21 (lv_at hl 0 rfl) ?_
  refine lv_iconst (v := 4) hx hb d_Model_coversAll_23 (by decide) ?_
  refine lv_icmp_ge (tgt := 91) hx hb d_Model_coversAll_24 (by decide) (fun hc => absurd hc (by decide +kernel)) (fun _ => ?_)
  refine lv_iload hx hb d_Model_coversAll_27 (lv_at hl 1 rfl) ?_
  refine lv_if_eq (tgt := 82) hx hb d_Model_coversAll_29 (by decide) (fun hc => absurd hc (by decide +kernel)) (fun _ => ?_)
  refine lv_aload_n hx hb d_Model_coversAll_32 rfl (lv_at hl 4 rfl) ?_
  refine va_get (D := G.1) (ci := 12) (v := .ref b23) (C := R_Model) (T := F_Model) (N := 54) hx hb hts i_Model hown hK hP 0 rfl rfl 34 (by decide) (hts _ q1147) (fun _ h9 => h9) rfl d_Model_coversAll_33 ?_
  refine lv_iload_n hx hb d_Model_coversAll_36 rfl (lv_at hl 3 rfl) ?_
  refine lv_iload hx hb d_Model_coversAll_37 (lv_at hl 0 rfl) ?_
  refine lv_iadd hx hb d_Model_coversAll_39 ?_
  refine z_topi (y := 1) (by decide +kernel) ?_
  refine va_lald hx hb hK hP 1 1 rfl rfl (i := 1) (z_in rfl) d_Model_coversAll_40 ?_
  refine z_topl (y := 0) rfl ?_
  refine lv_aload_n hx hb d_Model_coversAll_41 rfl (lv_at hl 4 rfl) ?_
  refine va_get (D := G.1) (ci := 12) (v := .ref b24) (C := R_Model) (T := F_Model) (N := 54) hx hb hts i_Model hown hK hP 0 rfl rfl 35 (by decide) (hts _ q1148) (fun _ h9 => h9) rfl d_Model_coversAll_42 ?_
  refine lv_iload_n hx hb d_Model_coversAll_45 rfl (lv_at hl 2 rfl) ?_
  refine lv_iload hx hb d_Model_coversAll_46 (lv_at hl 0 rfl) ?_
  refine lv_iadd hx hb d_Model_coversAll_48 ?_
  refine z_topi (y := 1) (by decide +kernel) ?_
  refine va_lald hx hb hK hP 2 1 rfl rfl (i := 1) (z_in rfl) d_Model_coversAll_49 ?_
  refine z_topl (y := 0) rfl ?_
  refine lv_lor hx hb d_Model_coversAll_50 ?_
  refine z_topl (y := 0) (by decide +kernel) ?_
  refine lv_aload_n hx hb d_Model_coversAll_51 rfl (lv_at hl 4 rfl) ?_
  refine va_get (D := G.1) (ci := 12) (v := .ref b23) (C := R_Model) (T := F_Model) (N := 54) hx hb hts i_Model hown hK hP 0 rfl rfl 34 (by decide) (hts _ q1147) (fun _ h9 => h9) rfl d_Model_coversAll_52 ?_
  refine lv_sipush (v := 4092) hx hb d_Model_coversAll_55 (by decide) ?_
  refine lv_iload hx hb d_Model_coversAll_58 (lv_at hl 0 rfl) ?_
  refine lv_iadd hx hb d_Model_coversAll_60 ?_
  refine z_topi (y := 4093) (by decide +kernel) ?_
  refine va_lald hx hb hK hP 1 1 rfl rfl (i := 4093) (z_in rfl) d_Model_coversAll_61 ?_
  refine z_topl (y := 0) rfl ?_
  refine lv_aload_n hx hb d_Model_coversAll_62 rfl (lv_at hl 4 rfl) ?_
  refine va_get (D := G.1) (ci := 12) (v := .ref b24) (C := R_Model) (T := F_Model) (N := 54) hx hb hts i_Model hown hK hP 0 rfl rfl 35 (by decide) (hts _ q1148) (fun _ h9 => h9) rfl d_Model_coversAll_63 ?_
  refine lv_sipush (v := 4092) hx hb d_Model_coversAll_66 (by decide) ?_
  refine lv_iload hx hb d_Model_coversAll_69 (lv_at hl 0 rfl) ?_
  refine lv_iadd hx hb d_Model_coversAll_71 ?_
  refine z_topi (y := 4093) (by decide +kernel) ?_
  refine va_lald hx hb hK hP 2 1 rfl rfl (i := 4093) (z_in rfl) d_Model_coversAll_72 ?_
  refine z_topl (y := 0) rfl ?_
  refine lv_lor hx hb d_Model_coversAll_73 ?_
  refine z_topl (y := 0) (by decide +kernel) ?_
  refine W.lcmp hx hb d_Model_coversAll_74 ?_
  refine z_topi (y := 0) (by decide +kernel) ?_
  refine lv_if_ne (tgt := 82) hx hb d_Model_coversAll_75 (by decide) (fun hc => absurd hc (by decide +kernel)) (fun _ => ?_)
  refine lv_iconst (v := 1) hx hb d_Model_coversAll_78 (by decide) ?_
  refine lv_goto (tgt := 83) hx hb d_Model_coversAll_79 (by decide) ?_
  refine lv_istore (lv' := [(4, .int 1), (5, .int 1), (3, .int 0), (2, .int 0), (0, .ref b0), (1, .int 0)]) hx hb d_Model_coversAll_83 hl (by decide) rfl (fun ls hl => ?_)
  refine lv_iinc (v := 2) (lv' := [(5, .int 2), (4, .int 1), (3, .int 0), (2, .int 0), (0, .ref b0), (1, .int 0)]) hx hb d_Model_coversAll_85 hl (k := 1) rfl (by decide +kernel) (by decide) rfl (fun ls hl => ?_)
  refine lv_goto (tgt := 21) hx hb d_Model_coversAll_88 (by decide) ?_
  refine lv_iload hx hb d_Model_coversAll_21 (lv_at hl 0 rfl) ?_
  refine lv_iconst (v := 4) hx hb d_Model_coversAll_23 (by decide) ?_
  refine lv_icmp_ge (tgt := 91) hx hb d_Model_coversAll_24 (by decide) (fun hc => absurd hc (by decide +kernel)) (fun _ => ?_)
  refine lv_iload hx hb d_Model_coversAll_27 (lv_at hl 1 rfl) ?_
  refine lv_if_eq (tgt := 82) hx hb d_Model_coversAll_29 (by decide) (fun hc => absurd hc (by decide +kernel)) (fun _ => ?_)
  refine lv_aload_n hx hb d_Model_coversAll_32 rfl (lv_at hl 4 rfl) ?_
  refine va_get (D := G.1) (ci := 12) (v := .ref b23) (C := R_Model) (T := F_Model) (N := 54) hx hb hts i_Model hown hK hP 0 rfl rfl 34 (by decide) (hts _ q1147) (fun _ h9 => h9) rfl d_Model_coversAll_33 ?_
  refine lv_iload_n hx hb d_Model_coversAll_36 rfl (lv_at hl 3 rfl) ?_
  refine lv_iload hx hb d_Model_coversAll_37 (lv_at hl 0 rfl) ?_
  refine lv_iadd hx hb d_Model_coversAll_39 ?_
  refine z_topi (y := 2) (by decide +kernel) ?_
  refine va_lald hx hb hK hP 1 1 rfl rfl (i := 2) (z_in rfl) d_Model_coversAll_40 ?_
  refine z_topl (y := 0) rfl ?_
  refine lv_aload_n hx hb d_Model_coversAll_41 rfl (lv_at hl 4 rfl) ?_
  refine va_get (D := G.1) (ci := 12) (v := .ref b24) (C := R_Model) (T := F_Model) (N := 54) hx hb hts i_Model hown hK hP 0 rfl rfl 35 (by decide) (hts _ q1148) (fun _ h9 => h9) rfl d_Model_coversAll_42 ?_
  refine lv_iload_n hx hb d_Model_coversAll_45 rfl (lv_at hl 2 rfl) ?_
  refine lv_iload hx hb d_Model_coversAll_46 (lv_at hl 0 rfl) ?_
  refine lv_iadd hx hb d_Model_coversAll_48 ?_
  refine z_topi (y := 2) (by decide +kernel) ?_
  refine va_lald hx hb hK hP 2 1 rfl rfl (i := 2) (z_in rfl) d_Model_coversAll_49 ?_
  refine z_topl (y := 0) rfl ?_
  refine lv_lor hx hb d_Model_coversAll_50 ?_
  refine z_topl (y := 0) (by decide +kernel) ?_
  refine lv_aload_n hx hb d_Model_coversAll_51 rfl (lv_at hl 4 rfl) ?_
  refine va_get (D := G.1) (ci := 12) (v := .ref b23) (C := R_Model) (T := F_Model) (N := 54) hx hb hts i_Model hown hK hP 0 rfl rfl 34 (by decide) (hts _ q1147) (fun _ h9 => h9) rfl d_Model_coversAll_52 ?_
  refine lv_sipush (v := 4092) hx hb d_Model_coversAll_55 (by decide) ?_
  refine lv_iload hx hb d_Model_coversAll_58 (lv_at hl 0 rfl) ?_
  refine lv_iadd hx hb d_Model_coversAll_60 ?_
  refine z_topi (y := 4094) (by decide +kernel) ?_
  refine va_lald hx hb hK hP 1 1 rfl rfl (i := 4094) (z_in rfl) d_Model_coversAll_61 ?_
  refine z_topl (y := 0) rfl ?_
  refine lv_aload_n hx hb d_Model_coversAll_62 rfl (lv_at hl 4 rfl) ?_
  refine va_get (D := G.1) (ci := 12) (v := .ref b24) (C := R_Model) (T := F_Model) (N := 54) hx hb hts i_Model hown hK hP 0 rfl rfl 35 (by decide) (hts _ q1148) (fun _ h9 => h9) rfl d_Model_coversAll_63 ?_
  refine lv_sipush (v := 4092) hx hb d_Model_coversAll_66 (by decide) ?_
  refine lv_iload hx hb d_Model_coversAll_69 (lv_at hl 0 rfl) ?_
  refine lv_iadd hx hb d_Model_coversAll_71 ?_
  refine z_topi (y := 4094) (by decide +kernel) ?_
  refine va_lald hx hb hK hP 2 1 rfl rfl (i := 4094) (z_in rfl) d_Model_coversAll_72 ?_
  refine z_topl (y := 0) rfl ?_
  refine lv_lor hx hb d_Model_coversAll_73 ?_
  refine z_topl (y := 0) (by decide +kernel) ?_
  refine W.lcmp hx hb d_Model_coversAll_74 ?_
  refine z_topi (y := 0) (by decide +kernel) ?_
  refine lv_if_ne (tgt := 82) hx hb d_Model_coversAll_75 (by decide) (fun hc => absurd hc (by decide +kernel)) (fun _ => ?_)
  refine lv_iconst (v := 1) hx hb d_Model_coversAll_78 (by decide) ?_
  refine lv_goto (tgt := 83) hx hb d_Model_coversAll_79 (by decide) ?_
  refine lv_istore (lv' := [(4, .int 1), (5, .int 2), (3, .int 0), (2, .int 0), (0, .ref b0), (1, .int 0)]) hx hb d_Model_coversAll_83 hl (by decide) rfl (fun ls hl => ?_)
  refine lv_iinc (v := 3) (lv' := [(5, .int 3), (4, .int 1), (3, .int 0), (2, .int 0), (0, .ref b0), (1, .int 0)]) hx hb d_Model_coversAll_85 hl (k := 1) rfl (by decide +kernel) (by decide) rfl (fun ls hl => ?_)
  refine lv_goto (tgt := 21) hx hb d_Model_coversAll_88 (by decide) ?_
  refine lv_iload hx hb d_Model_coversAll_21 (lv_at hl 0 rfl) ?_
  refine lv_iconst (v := 4) hx hb d_Model_coversAll_23 (by decide) ?_
  refine lv_icmp_ge (tgt := 91) hx hb d_Model_coversAll_24 (by decide) (fun hc => absurd hc (by decide +kernel)) (fun _ => ?_)
  refine lv_iload hx hb d_Model_coversAll_27 (lv_at hl 1 rfl) ?_
  refine lv_if_eq (tgt := 82) hx hb d_Model_coversAll_29 (by decide) (fun hc => absurd hc (by decide +kernel)) (fun _ => ?_)
  refine lv_aload_n hx hb d_Model_coversAll_32 rfl (lv_at hl 4 rfl) ?_
  refine va_get (D := G.1) (ci := 12) (v := .ref b23) (C := R_Model) (T := F_Model) (N := 54) hx hb hts i_Model hown hK hP 0 rfl rfl 34 (by decide) (hts _ q1147) (fun _ h9 => h9) rfl d_Model_coversAll_33 ?_
  refine lv_iload_n hx hb d_Model_coversAll_36 rfl (lv_at hl 3 rfl) ?_
  refine lv_iload hx hb d_Model_coversAll_37 (lv_at hl 0 rfl) ?_
  refine lv_iadd hx hb d_Model_coversAll_39 ?_
  refine z_topi (y := 3) (by decide +kernel) ?_
  refine va_lald hx hb hK hP 1 1 rfl rfl (i := 3) (z_in rfl) d_Model_coversAll_40 ?_
  refine z_topl (y := 0) rfl ?_
  refine lv_aload_n hx hb d_Model_coversAll_41 rfl (lv_at hl 4 rfl) ?_
  refine va_get (D := G.1) (ci := 12) (v := .ref b24) (C := R_Model) (T := F_Model) (N := 54) hx hb hts i_Model hown hK hP 0 rfl rfl 35 (by decide) (hts _ q1148) (fun _ h9 => h9) rfl d_Model_coversAll_42 ?_
  refine lv_iload_n hx hb d_Model_coversAll_45 rfl (lv_at hl 2 rfl) ?_
  refine lv_iload hx hb d_Model_coversAll_46 (lv_at hl 0 rfl) ?_
  refine lv_iadd hx hb d_Model_coversAll_48 ?_
  refine z_topi (y := 3) (by decide +kernel) ?_
  refine va_lald hx hb hK hP 2 1 rfl rfl (i := 3) (z_in rfl) d_Model_coversAll_49 ?_
  refine z_topl (y := 0) rfl ?_
  refine lv_lor hx hb d_Model_coversAll_50 ?_
  refine z_topl (y := 0) (by decide +kernel) ?_
  refine lv_aload_n hx hb d_Model_coversAll_51 rfl (lv_at hl 4 rfl) ?_
  refine va_get (D := G.1) (ci := 12) (v := .ref b23) (C := R_Model) (T := F_Model) (N := 54) hx hb hts i_Model hown hK hP 0 rfl rfl 34 (by decide) (hts _ q1147) (fun _ h9 => h9) rfl d_Model_coversAll_52 ?_
  refine lv_sipush (v := 4092) hx hb d_Model_coversAll_55 (by decide) ?_
  refine lv_iload hx hb d_Model_coversAll_58 (lv_at hl 0 rfl) ?_
  refine lv_iadd hx hb d_Model_coversAll_60 ?_
  refine z_topi (y := 4095) (by decide +kernel) ?_
  refine va_lald hx hb hK hP 1 1 rfl rfl (i := 4095) (z_in rfl) d_Model_coversAll_61 ?_
  refine z_topl (y := 0) rfl ?_
  refine lv_aload_n hx hb d_Model_coversAll_62 rfl (lv_at hl 4 rfl) ?_
  refine va_get (D := G.1) (ci := 12) (v := .ref b24) (C := R_Model) (T := F_Model) (N := 54) hx hb hts i_Model hown hK hP 0 rfl rfl 35 (by decide) (hts _ q1148) (fun _ h9 => h9) rfl d_Model_coversAll_63 ?_
  refine lv_sipush (v := 4092) hx hb d_Model_coversAll_66 (by decide) ?_
  refine lv_iload hx hb d_Model_coversAll_69 (lv_at hl 0 rfl) ?_
  refine lv_iadd hx hb d_Model_coversAll_71 ?_
  refine z_topi (y := 4095) (by decide +kernel) ?_
  refine va_lald hx hb hK hP 2 1 rfl rfl (i := 4095) (z_in rfl) d_Model_coversAll_72 ?_
  refine z_topl (y := 0) rfl ?_
  refine lv_lor hx hb d_Model_coversAll_73 ?_
  refine z_topl (y := 0) (by decide +kernel) ?_
  refine W.lcmp hx hb d_Model_coversAll_74 ?_
  refine z_topi (y := 0) (by decide +kernel) ?_
  refine lv_if_ne (tgt := 82) hx hb d_Model_coversAll_75 (by decide) (fun hc => absurd hc (by decide +kernel)) (fun _ => ?_)
  refine lv_iconst (v := 1) hx hb d_Model_coversAll_78 (by decide) ?_
  refine lv_goto (tgt := 83) hx hb d_Model_coversAll_79 (by decide) ?_
  refine lv_istore (lv' := [(4, .int 1), (5, .int 3), (3, .int 0), (2, .int 0), (0, .ref b0), (1, .int 0)]) hx hb d_Model_coversAll_83 hl (by decide) rfl (fun ls hl => ?_)
  refine lv_iinc (v := 4) (lv' := [(5, .int 4), (4, .int 1), (3, .int 0), (2, .int 0), (0, .ref b0), (1, .int 0)]) hx hb d_Model_coversAll_85 hl (k := 1) rfl (by decide +kernel) (by decide) rfl (fun ls hl => ?_)
  refine lv_goto (tgt := 21) hx hb d_Model_coversAll_88 (by decide) ?_
  refine lv_iload hx hb d_Model_coversAll_21 (lv_at hl 0 rfl) ?_
  refine lv_iconst (v := 4) hx hb d_Model_coversAll_23 (by decide) ?_
  refine lv_icmp_ge (tgt := 91) hx hb d_Model_coversAll_24 (by decide) (fun _ => ?_) (fun hc => absurd hc (by decide +kernel))
  refine lv_iload hx hb d_Model_coversAll_91 (lv_at hl 1 rfl) ?_
  exact z_zret hx hb hr hlocks rfl hP hD hS (Nat.le_of_ble_eq_true rfl) (Nat.le_of_ble_eq_true rfl) d_Model_coversAll_93 ⟨rfl, rfl⟩
theorem d_Model_cover_63 : decode prog_14_method_57_code 63 = .ok (.ifCond .eq 9, 3) := by decide +kernel
theorem d_Model_cover_66 : decode prog_14_method_57_code 66 = .ok (.iload 4, 2) := by decide +kernel
theorem d_Model_cover_68 : decode prog_14_method_57_code 68 = .ok (.istore_n 2, 1) := by decide +kernel
theorem d_Model_cover_69 : decode prog_14_method_57_code 69 = .ok (.iload 5, 2) := by decide +kernel
theorem d_Model_cover_71 : decode prog_14_method_57_code 71 = .ok (.istore_n 3, 1) := by decide +kernel
theorem d_Model_cover_72 : decode prog_14_method_57_code 72 = .ok (.iinc 4 1, 3) := by decide +kernel
theorem d_Model_cover_75 : decode prog_14_method_57_code 75 = .ok (.goto (-42), 3) := by decide +kernel
theorem d_Model_cover_78 : decode prog_14_method_57_code 78 = .ok (.iload_n 1, 1) := by decide +kernel
theorem d_Model_cover_79 : decode prog_14_method_57_code 79 = .ok (.ifCond .ne 7, 3) := by decide +kernel
theorem d_Model_cover_82 : decode prog_14_method_57_code 82 = .ok (.iload_n 3, 1) := by decide +kernel
theorem d_Model_cover_83 : decode prog_14_method_57_code 83 = .ok (.goto 4, 3) := by decide +kernel
theorem d_Model_cover_86 : decode prog_14_method_57_code 86 = .ok (.iload_n 2, 1) := by decide +kernel
theorem d_Model_cover_87 : decode prog_14_method_57_code 87 = .ok (.ireturn, 1) := by decide +kernel
abbrev m_t_Model_cover : Room := { frames := 4, cells := 0, slots := 0, locals := 94 }
set_option maxHeartbeats 4000000 in
set_option maxRecDepth 100000 in
theorem t_Model_cover (l : Launch) (G : zG) (b0 : Nat) (p0 : Int32) (b2 : Nat) (b3 : Nat) (b4 : Nat) (b5 : Nat) (b6 : Nat) (b7 : Nat) (b8 : Nat) (b9 : Nat) (b10 : Nat) (b11 : Nat) (b12 : Nat) (b13 : Nat) (b14 : Nat) (b15 : Nat) (b16 : Nat) (b17 : Nat) (b18 : Nat) (b19 : Nat) (b20 : Nat) (b21 : Nat) (b22 : Nat) (b23 : Nat) (b24 : Nat) (b25 : Nat) (b26 : Nat) (b27 : Nat) (b28 : Nat) (b29 : Nat) (b30 : Nat) (b31 : Nat) (b32 : Nat) (b33 : Nat) (b34 : Nat) (b35 : Nat) (b36 : Nat) (b37 : Nat) (b38 : Nat) (b39 : Nat) (b40 : Nat)  : zM l G y_Model_cover prog_14_method_57_code 6 (Option.some Jvm.ClassFile.FieldType.int) m_t_Model_cover [.ref b0, .int p0] [(b0, .inr (12, [.int 0, .ref b2, .ref b3, .ref b4, .ref b5, .int 0, .ref b6, .int 0, .int 0, .int 0, .int 0, .ref b7, .ref b8, .ref b9, .int 0, .ref b10, .ref b11, .ref b12, .ref b13, .ref b14, .ref b15, .ref b16, .ref b17, .ref b18, .ref b19, .ref b20, .ref b21, .int 0, .ref b22, .ref b23, .int 0, .int 0, .int 0, .int 0, .ref b24, .ref b25, .ref b26, .ref b27, .ref b28, .ref b29, .ref b30, .int 0, .ref b31, .ref b32, .int 0, .ref b33, .ref b34, .ref b35, .ref b36, .ref b37, .int 0, .ref b38, .ref b39, .ref b40])), (b2, .inl (G.2 0, 503, .inl (upd (fun _ => 0) 501 1))), (b10, .inl (G.2 0, 2, .inl (fun _ => 0))), (b11, .inl (G.2 0, 4820, .inl (fun _ => 0))), (b14, .inl (G.2 0, 482, .inl (fun _ => 0))), (b16, .inl (G.2 0, 2, .inl (fun _ => 0))), (b20, .inl (G.2 0, 2, .inl (fun _ => 0))), (b24, .inl (G.2 1, 4096, .inr (.inl (fun _ => 0)))), (b26, .inl (G.2 1, 80, .inr (.inl (fun _ => 0)))), (b25, .inl (G.2 1, 4096, .inr (.inl (fun _ => 0))))] (fun v _ => v = some (.int (a_cover p0))) := by
  refine z_start (by decide +kernel) (Nat.le_of_ble_eq_true rfl) ?_
  intro p e s m below meth c A Z hr hnm hA hP hD hS ls hl
  have Z : zC p s m _ meth c prog_14_method_57_code 6 "TraceMachinesModel" G := Z
  obtain ⟨hx, hb, hml, hown, hts, hK, hN, hlocks⟩ := id Z
  have hl : lv_has ls 6 [(0, .ref b0), (1, .int p0)] := hl
  refine lv_aload_n hx hb d_Model_cover_0 rfl (lv_at hl 0 rfl) ?_
  refine lv_iconst (v := 0) hx hb d_Model_cover_1 (by decide) ?_
  refine va_put (D := G.1) (ci := 12) (v := .int 0) (ty := .int) (C := R_Model) (T := F_Model) (N := 54) hx hb hts i_Model t_Model t_Model_ok n_Model hown hK hP hD hS 0 rfl rfl 0 (by decide) (hts _ q1113) (fun _ h9 => h9) rfl (by decide +kernel) rfl rfl (Nat.le_of_ble_eq_true rfl) d_Model_cover_2 (fun H locs hP hD hS => ?_)
  have hP : va_P G.1 classes [(b0, .inr (12, [.int 0, .ref b2, .ref b3, .ref b4, .ref b5, .int 0, .ref b6, .int 0, .int 0, .int 0, .int 0, .ref b7, .ref b8, .ref b9, .int 0, .ref b10, .ref b11, .ref b12, .ref b13, .ref b14, .ref b15, .ref b16, .ref b17, .ref b18, .ref b19, .ref b20, .ref b21, .int 0, .ref b22, .ref b23, .int 0, .int 0, .int 0, .int 0, .ref b24, .ref b25, .ref b26, .ref b27, .ref b28, .ref b29, .ref b30, .int 0, .ref b31, .ref b32, .int 0, .ref b33, .ref b34, .ref b35, .ref b36, .ref b37, .int 0, .ref b38, .ref b39, .ref b40])), (b2, .inl (G.2 0, 503, .inl (upd (fun _ => 0) 501 1))), (b10, .inl (G.2 0, 2, .inl (fun _ => 0))), (b11, .inl (G.2 0, 4820, .inl (fun _ => 0))), (b14, .inl (G.2 0, 482, .inl (fun _ => 0))), (b16, .inl (G.2 0, 2, .inl (fun _ => 0))), (b20, .inl (G.2 0, 2, .inl (fun _ => 0))), (b24, .inl (G.2 1, 4096, .inr (.inl (fun _ => 0)))), (b26, .inl (G.2 1, 80, .inr (.inl (fun _ => 0)))), (b25, .inl (G.2 1, 4096, .inr (.inl (fun _ => 0))))] H := hP
  have hD := z_tie hP hD rfl
  refine lv_iload_n hx hb d_Model_cover_5 rfl (lv_at hl 1 rfl) ?_
  refine lv_i2l (v := p0.toInt64) hx hb d_Model_cover_6 rfl ?_
  refine lv_lconst (v := 0) hx hb d_Model_cover_7 (by decide) ?_
  refine lv_lconst (v := 1) hx hb d_Model_cover_8 (by decide) ?_
  refine z_callS (index := 138) (As := [.long p0.toInt64, .long 0, .long 1]) (rest := []) (wr := [(b0, .inr (12, [.int 0, .ref b2, .ref b3, .ref b4, .ref b5, .int 0, .ref b6, .int 0, .int 0, .int 0, .int 0, .ref b7, .ref b8, .ref b9, .int 0, .ref b10, .ref b11, .ref b12, .ref b13, .ref b14, .ref b15, .ref b16, .ref b17, .ref b18, .ref b19, .ref b20, .ref b21, .int 0, .ref b22, .ref b23, .int 0, .int 0, .int 0, .int 0, .ref b24, .ref b25, .ref b26, .ref b27, .ref b28, .ref b29, .ref b30, .int 0, .ref b31, .ref b32, .int 0, .ref b33, .ref b34, .ref b35, .ref b36, .ref b37, .int 0, .ref b38, .ref b39, .ref b40])), (b2, .inl (G.2 0, 503, .inl (upd (fun _ => 0) 501 1))), (b10, .inl (G.2 0, 2, .inl (fun _ => 0))), (b11, .inl (G.2 0, 4820, .inl (fun _ => 0))), (b14, .inl (G.2 0, 482, .inl (fun _ => 0))), (b16, .inl (G.2 0, 2, .inl (fun _ => 0))), (b20, .inl (G.2 0, 2, .inl (fun _ => 0))), (b24, .inl (G.2 1, 4096, .inr (.inl (fun _ => 0)))), (b26, .inl (G.2 1, 80, .inr (.inl (fun _ => 0)))), (b25, .inl (G.2 1, 4096, .inr (.inl (fun _ => 0))))]) Z (c6_Model_in l G (p0.toInt64)) hl.1 q1285 q1286 q14 q1287 ⟨by decide, by decide, by show _ = some 3; decide +kernel⟩ ⟨Nat.le_of_ble_eq_true rfl, Nat.le_of_ble_eq_true rfl⟩ ⟨Nat.le_of_ble_eq_true rfl, Nat.le_of_ble_eq_true rfl⟩ rfl (Nat.le_of_ble_eq_true rfl) d_Model_cover_9 hP hD hS hA [] [0, 1, 2, 3, 4, 5, 6, 7, 8, 9] rfl rfl rfl rfl (by decide) (fun v w1 H locs hw_1 hP hD hS => ?_)
  rcases hw_1 with ⟨rfl, rfl, hq_2⟩ | ⟨rfl, rfl, hq_3, hq_4⟩ | ⟨rfl, rfl, hq_5, hq_6⟩
  · try simp only [Int32.toInt_toInt64, ll_0] at hq_2
    have hP : va_P G.1 classes [(b0, .inr (12, [.int 0, .ref b2, .ref b3, .ref b4, .ref b5, .int 0, .ref b6, .int 0, .int 0, .int 0, .int 0, .ref b7, .ref b8, .ref b9, .int 0, .ref b10, .ref b11, .ref b12, .ref b13, .ref b14, .ref b15, .ref b16, .ref b17, .ref b18, .ref b19, .ref b20, .ref b21, .int 0, .ref b22, .ref b23, .int 0, .int 0, .int 0, .int 0, .ref b24, .ref b25, .ref b26, .ref b27, .ref b28, .ref b29, .ref b30, .int 0, .ref b31, .ref b32, .int 0, .ref b33, .ref b34, .ref b35, .ref b36, .ref b37, .int 0, .ref b38, .ref b39, .ref b40])), (b2, .inl (G.2 0, 503, .inl (upd (fun _ => 0) 501 1))), (b10, .inl (G.2 0, 2, .inl (fun _ => 0))), (b11, .inl (G.2 0, 4820, .inl (fun _ => 0))), (b14, .inl (G.2 0, 482, .inl (fun _ => 0))), (b16, .inl (G.2 0, 2, .inl (fun _ => 0))), (b20, .inl (G.2 0, 2, .inl (fun _ => 0))), (b24, .inl (G.2 1, 4096, .inr (.inl (fun _ => 0)))), (b26, .inl (G.2 1, 80, .inr (.inl (fun _ => 0)))), (b25, .inl (G.2 1, 4096, .inr (.inl (fun _ => 0))))] H := hP
    have hD := z_tie hP hD rfl
    refine W.widen (k := 0) (n := 0) (Nat.le_of_ble_eq_true rfl) (Nat.le_of_ble_eq_true rfl) ?_
    refine lv_if_ne (tgt := 17) hx hb d_Model_cover_12 (by decide) (fun hc => absurd hc (by decide +kernel)) (fun _ => ?_)
    refine lv_iconst (v := (-1)) hx hb d_Model_cover_15 (by decide) ?_
    exact z_iret hx hb hr hlocks hP hD hS (Nat.le_of_ble_eq_true rfl) (Nat.le_of_ble_eq_true rfl) d_Model_cover_16 (congrArg (fun z => some (Value.int z)) (by unfold a_cover; (first | rfl | (repeat (first | rw [if_pos (by omega)] | rw [if_neg (by omega)])))))
  · try simp only [Int32.toInt_toInt64, ll_0] at hq_3
    try simp only [Int32.toInt_toInt64, ll_1] at hq_4
    have hP : va_P G.1 classes [(b0, .inr (12, [.int 0, .ref b2, .ref b3, .ref b4, .ref b5, .int 0, .ref b6, .int 0, .int 0, .int 0, .int 0, .ref b7, .ref b8, .ref b9, .int 0, .ref b10, .ref b11, .ref b12, .ref b13, .ref b14, .ref b15, .ref b16, .ref b17, .ref b18, .ref b19, .ref b20, .ref b21, .int 0, .ref b22, .ref b23, .int 0, .int 0, .int 0, .int 0, .ref b24, .ref b25, .ref b26, .ref b27, .ref b28, .ref b29, .ref b30, .int 0, .ref b31, .ref b32, .int 0, .ref b33, .ref b34, .ref b35, .ref b36, .ref b37, .int 0, .ref b38, .ref b39, .ref b40])), (b2, .inl (G.2 0, 503, .inl (upd (fun _ => 0) 501 1))), (b10, .inl (G.2 0, 2, .inl (fun _ => 0))), (b11, .inl (G.2 0, 4820, .inl (fun _ => 0))), (b14, .inl (G.2 0, 482, .inl (fun _ => 0))), (b16, .inl (G.2 0, 2, .inl (fun _ => 0))), (b20, .inl (G.2 0, 2, .inl (fun _ => 0))), (b24, .inl (G.2 1, 4096, .inr (.inl (fun _ => 0)))), (b26, .inl (G.2 1, 80, .inr (.inl (fun _ => 0)))), (b25, .inl (G.2 1, 4096, .inr (.inl (fun _ => 0))))] H := hP
    have hD := z_tie hP hD rfl
    refine W.widen (k := 0) (n := 0) (Nat.le_of_ble_eq_true rfl) (Nat.le_of_ble_eq_true rfl) ?_
    refine lv_if_ne (tgt := 17) hx hb d_Model_cover_12 (by decide) (fun hc => absurd hc (by decide +kernel)) (fun _ => ?_)
    refine lv_iconst (v := (-1)) hx hb d_Model_cover_15 (by decide) ?_
    exact z_iret hx hb hr hlocks hP hD hS (Nat.le_of_ble_eq_true rfl) (Nat.le_of_ble_eq_true rfl) d_Model_cover_16 (congrArg (fun z => some (Value.int z)) (by unfold a_cover; (first | rfl | (repeat (first | rw [if_pos (by omega)] | rw [if_neg (by omega)])))))
  · try simp only [Int32.toInt_toInt64, ll_0] at hq_5
    try simp only [Int32.toInt_toInt64, ll_1] at hq_6
    have hP : va_P G.1 classes [(b0, .inr (12, [.int 0, .ref b2, .ref b3, .ref b4, .ref b5, .int 0, .ref b6, .int 0, .int 0, .int 0, .int 0, .ref b7, .ref b8, .ref b9, .int 0, .ref b10, .ref b11, .ref b12, .ref b13, .ref b14, .ref b15, .ref b16, .ref b17, .ref b18, .ref b19, .ref b20, .ref b21, .int 0, .ref b22, .ref b23, .int 0, .int 0, .int 0, .int 0, .ref b24, .ref b25, .ref b26, .ref b27, .ref b28, .ref b29, .ref b30, .int 0, .ref b31, .ref b32, .int 0, .ref b33, .ref b34, .ref b35, .ref b36, .ref b37, .int 0, .ref b38, .ref b39, .ref b40])), (b2, .inl (G.2 0, 503, .inl (upd (fun _ => 0) 501 1))), (b10, .inl (G.2 0, 2, .inl (fun _ => 0))), (b11, .inl (G.2 0, 4820, .inl (fun _ => 0))), (b14, .inl (G.2 0, 482, .inl (fun _ => 0))), (b16, .inl (G.2 0, 2, .inl (fun _ => 0))), (b20, .inl (G.2 0, 2, .inl (fun _ => 0))), (b24, .inl (G.2 1, 4096, .inr (.inl (fun _ => 0)))), (b26, .inl (G.2 1, 80, .inr (.inl (fun _ => 0)))), (b25, .inl (G.2 1, 4096, .inr (.inl (fun _ => 0))))] H := hP
    have hD := z_tie hP hD rfl
    refine W.widen (k := 0) (n := 0) (Nat.le_of_ble_eq_true rfl) (Nat.le_of_ble_eq_true rfl) ?_
    refine lv_if_ne (tgt := 17) hx hb d_Model_cover_12 (by decide) (fun _ => ?_) (fun hc => absurd hc (by decide +kernel))
    refine lv_aload_n hx hb d_Model_cover_17 rfl (lv_at hl 0 rfl) ?_
    refine z_callV (index := 254) (As := []) (rest := []) (wr := [(b24, .inl (G.2 1, 4096, .inr (.inl (fun _ => 0)))), (b26, .inl (G.2 1, 80, .inr (.inl (fun _ => 0)))), (b25, .inl (G.2 1, 4096, .inr (.inl (fun _ => 0))))]) Z (c1_Model_lay1 l G (b0) (b2) (b3) (b4) (b5) (b6) (b7) (b8) (b9) (b10) (b11) (b12) (b13) (b14) (b15) (b16) (b17) (b18) (b19) (b20) (b21) (b22) (b23) (b24) (b25) (b26) (b27) (b28) (b29) (b30) (b31) (b32) (b33) (b34) (b35) (b36) (b37) (b38) (b39) (b40)) hl.1 q1360 q1362 qs55 q14 q1363 ⟨by decide, by decide, by show _ = some 0; decide +kernel⟩ ⟨Nat.le_of_ble_eq_true rfl, Nat.le_of_ble_eq_true rfl⟩ ⟨Nat.le_of_ble_eq_true rfl, Nat.le_of_ble_eq_true rfl⟩ rfl (Nat.le_of_ble_eq_true rfl) d_Model_cover_18 hP hD hS hA 0 12 rfl rfl rfl [0, 1, 2, 3, 4, 5, 6] [7, 8, 9] rfl rfl rfl rfl (by decide) (fun v w1 H locs hw_7 hP hD hS => ?_)
    obtain ⟨rfl, rfl⟩ := hw_7
    have hP : va_P G.1 classes [(b24, .inl (G.2 1, 4096, .inr (.inl (fun _ => 0)))), (b26, .inl (G.2 1, 80, .inr (.inl (fun _ => 0)))), (b25, .inl (G.2 1, 4096, .inr (.inl (fun _ => 0)))), (b20, .inl (G.2 0, 2, .inl (upd (fun _ => 0) 0 0))), (b11, .inl (G.2 0, 4820, .inl (upd (upd (upd (upd (upd (upd (upd (upd (upd (upd (fun _ => 0) 0 (-1)) 1 (-1)) 2 (-1)) 3 (-1)) 4 (-1)) 5 (-1)) 6 (-1)) 7 (-1)) 8 (-1)) 9 (-1)))), (b14, .inl (G.2 0, 482, .inl (upd (upd (fun _ => 0) 0 0) 0 0))), (b16, .inl (G.2 0, 2, .inl (upd (fun _ => 0) 0 0))), (b10, .inl (G.2 0, 2, .inl (upd (upd (fun _ => 0) 0 0) 0 1))), (b0, .inr (12, [.int 0, .ref b2, .ref b3, .ref b4, .ref b5, .int 0, .ref b6, .int 0, .int 0, .int 0, .int 0, .ref b7, .ref b8, .ref b9, .int 0, .ref b10, .ref b11, .ref b12, .ref b13, .ref b14, .ref b15, .ref b16, .ref b17, .ref b18, .ref b19, .ref b20, .ref b21, .int 0, .ref b22, .ref b23, .int 0, .int 0, .int 0, .int 0, .ref b24, .ref b25, .ref b26, .ref b27, .ref b28, .ref b29, .ref b30, .int 0, .ref b31, .ref b32, .int 0, .ref b33, .ref b34, .ref b35, .ref b36, .ref b37, .int 0, .ref b38, .ref b39, .ref b40])), (b2, .inl (G.2 0, 503, .inl (upd (fun _ => 0) 501 1)))] H := hP
    have hD := z_tie hP hD rfl
    refine W.widen (k := 0) (n := 0) (Nat.le_of_ble_eq_true rfl) (Nat.le_of_ble_eq_true rfl) ?_
    refine lv_aload_n hx hb d_Model_cover_21 rfl (lv_at hl 0 rfl) ?_
    refine z_callV (index := 305) (As := []) (rest := []) (wr := [(b20, .inl (G.2 0, 2, .inl (upd (fun _ => 0) 0 0))), (b11, .inl (G.2 0, 4820, .inl (upd (upd (upd (upd (upd (upd (upd (upd (upd (upd (fun _ => 0) 0 (-1)) 1 (-1)) 2 (-1)) 3 (-1)) 4 (-1)) 5 (-1)) 6 (-1)) 7 (-1)) 8 (-1)) 9 (-1)))), (b14, .inl (G.2 0, 482, .inl (upd (upd (fun _ => 0) 0 0) 0 0))), (b16, .inl (G.2 0, 2, .inl (upd (fun _ => 0) 0 0))), (b10, .inl (G.2 0, 2, .inl (upd (upd (fun _ => 0) 0 0) 0 1)))]) Z (c1_Model_layGoes l G (b0) (b2) (b3) (b4) (b5) (b6) (b7) (b8) (b9) (b10) (b11) (b12) (b13) (b14) (b15) (b16) (b17) (b18) (b19) (b20) (b21) (b22) (b23) (b24) (b25) (b26) (b27) (b28) (b29) (b30) (b31) (b32) (b33) (b34) (b35) (b36) (b37) (b38) (b39) (b40)) hl.1 q1483 q1485 qs78 q14 q1486 ⟨by decide, by decide, by show _ = some 0; decide +kernel⟩ ⟨Nat.le_of_ble_eq_true rfl, Nat.le_of_ble_eq_true rfl⟩ ⟨Nat.le_of_ble_eq_true rfl, Nat.le_of_ble_eq_true rfl⟩ rfl (Nat.le_of_ble_eq_true rfl) d_Model_cover_22 hP hD hS hA 8 12 rfl rfl rfl [8, 9, 0, 1, 2] [3, 4, 5, 6, 7] rfl rfl rfl rfl (by decide) (fun v w1 H locs hw_8 hP hD hS => ?_)
    obtain ⟨rfl, rfl⟩ := hw_8
    have hP : va_P G.1 classes [(b20, .inl (G.2 0, 2, .inl (upd (fun _ => 0) 0 0))), (b11, .inl (G.2 0, 4820, .inl (upd (upd (upd (upd (upd (upd (upd (upd (upd (upd (fun _ => 0) 0 (-1)) 1 (-1)) 2 (-1)) 3 (-1)) 4 (-1)) 5 (-1)) 6 (-1)) 7 (-1)) 8 (-1)) 9 (-1)))), (b14, .inl (G.2 0, 482, .inl (upd (upd (fun _ => 0) 0 0) 0 0))), (b16, .inl (G.2 0, 2, .inl (upd (fun _ => 0) 0 0))), (b10, .inl (G.2 0, 2, .inl (upd (upd (fun _ => 0) 0 0) 0 1))), (b24, .inl (G.2 1, 4096, .inr (.inl (fun _ => 0)))), (b26, .inl (G.2 1, 80, .inr (.inl (fun _ => 0)))), (b25, .inl (G.2 1, 4096, .inr (.inl (fun _ => 0)))), (b0, .inr (12, [.int 0, .ref b2, .ref b3, .ref b4, .ref b5, .int 0, .ref b6, .int 0, .int 0, .int 0, .int 0, .ref b7, .ref b8, .ref b9, .int 0, .ref b10, .ref b11, .ref b12, .ref b13, .ref b14, .ref b15, .ref b16, .ref b17, .ref b18, .ref b19, .ref b20, .ref b21, .int 0, .ref b22, .ref b23, .int 0, .int 0, .int 0, .int 0, .ref b24, .ref b25, .ref b26, .ref b27, .ref b28, .ref b29, .ref b30, .int 0, .ref b31, .ref b32, .int 0, .ref b33, .ref b34, .ref b35, .ref b36, .ref b37, .int 0, .ref b38, .ref b39, .ref b40])), (b2, .inl (G.2 0, 503, .inl (upd (fun _ => 0) 501 1)))] H := hP
    have hD := z_tie hP hD rfl
    refine W.widen (k := 0) (n := 0) (Nat.le_of_ble_eq_true rfl) (Nat.le_of_ble_eq_true rfl) ?_
    refine lv_iconst (v := 0) hx hb d_Model_cover_25 (by decide) ?_
    refine lv_istore_n (lv' := [(2, .int 0), (0, .ref b0), (1, .int p0)]) hx hb d_Model_cover_26 rfl hl (by decide) rfl (fun ls hl => ?_)
    refine lv_bipush (v := 21) hx hb d_Model_cover_27 (by decide) ?_
    refine lv_istore_n (lv' := [(3, .int 21), (2, .int 0), (0, .ref b0), (1, .int p0)]) hx hb d_Model_cover_29 rfl hl (by decide) rfl (fun ls hl => ?_)
    refine lv_iconst (v := 0) hx hb d_Model_cover_30 (by decide) ?_
    refine lv_istore (lv' := [(4, .int 0), (3, .int 21), (2, .int 0), (0, .ref b0), (1, .int p0)]) hx hb d_Model_cover_31 hl (by decide) rfl (fun ls hl => ?_)
    refine lv_iload hx hb d_Model_cover_33 (lv_at hl 0 rfl) ?_
    refine lv_iconst (v := 1) hx hb d_Model_cover_35 (by decide) ?_
    refine lv_aload_n hx hb d_Model_cover_36 rfl (lv_at hl 3 rfl) ?_
    refine z_callV (index := 134) (As := []) (rest := [.int 1, .int 0]) (wr := [(b20, .inl (G.2 0, 2, .inl (upd (fun _ => 0) 0 0))), (b11, .inl (G.2 0, 4820, .inl (upd (upd (upd (upd (upd (upd (upd (upd (upd (upd (fun _ => 0) 0 (-1)) 1 (-1)) 2 (-1)) 3 (-1)) 4 (-1)) 5 (-1)) 6 (-1)) 7 (-1)) 8 (-1)) 9 (-1)))), (b14, .inl (G.2 0, 482, .inl (upd (upd (fun _ => 0) 0 0) 0 0))), (b16, .inl (G.2 0, 2, .inl (upd (fun _ => 0) 0 0))), (b10, .inl (G.2 0, 2, .inl (upd (upd (fun _ => 0) 0 0) 0 1))), (b24, .inl (G.2 1, 4096, .inr (.inl (fun _ => 0)))), (b26, .inl (G.2 1, 80, .inr (.inl (fun _ => 0)))), (b25, .inl (G.2 1, 4096, .inr (.inl (fun _ => 0))))]) Z (c2_Model_many l G (b0) (b2) (b3) (b4) (b5) (b6) (b7) (b8) (b9) (b10) (b11) (b12) (b13) (b14) (b15) (b16) (b17) (b18) (b19) (b20) (b21) (b22) (b23) (b24) (b25) (b26) (b27) (b28) (b29) (b30) (b31) (b32) (b33) (b34) (b35) (b36) (b37) (b38) (b39) (b40)) hl.1 q1324 q1326 qs51 q14 q1327 ⟨by decide, by decide, by show _ = some 0; decide +kernel⟩ ⟨Nat.le_of_ble_eq_true rfl, Nat.le_of_ble_eq_true rfl⟩ ⟨Nat.le_of_ble_eq_true rfl, Nat.le_of_ble_eq_true rfl⟩ rfl (Nat.le_of_ble_eq_true rfl) d_Model_cover_37 hP hD hS hA 8 12 rfl rfl rfl [8, 9] [0, 1, 2, 3, 4, 5, 6, 7] rfl rfl rfl rfl (by decide) (fun v w1 H locs hw_9 hP hD hS => ?_)
    obtain ⟨rfl, rfl⟩ := hw_9
    have hP : va_P G.1 classes [(b20, .inl (G.2 0, 2, .inl (upd (fun _ => 0) 0 0))), (b11, .inl (G.2 0, 4820, .inl (upd (upd (upd (upd (upd (upd (upd (upd (upd (upd (fun _ => 0) 0 (-1)) 1 (-1)) 2 (-1)) 3 (-1)) 4 (-1)) 5 (-1)) 6 (-1)) 7 (-1)) 8 (-1)) 9 (-1)))), (b14, .inl (G.2 0, 482, .inl (upd (upd (fun _ => 0) 0 0) 0 0))), (b16, .inl (G.2 0, 2, .inl (upd (fun _ => 0) 0 0))), (b10, .inl (G.2 0, 2, .inl (upd (upd (fun _ => 0) 0 0) 0 1))), (b24, .inl (G.2 1, 4096, .inr (.inl (fun _ => 0)))), (b26, .inl (G.2 1, 80, .inr (.inl (fun _ => 0)))), (b25, .inl (G.2 1, 4096, .inr (.inl (fun _ => 0)))), (b0, .inr (12, [.int 0, .ref b2, .ref b3, .ref b4, .ref b5, .int 0, .ref b6, .int 0, .int 0, .int 0, .int 0, .ref b7, .ref b8, .ref b9, .int 0, .ref b10, .ref b11, .ref b12, .ref b13, .ref b14, .ref b15, .ref b16, .ref b17, .ref b18, .ref b19, .ref b20, .ref b21, .int 0, .ref b22, .ref b23, .int 0, .int 0, .int 0, .int 0, .ref b24, .ref b25, .ref b26, .ref b27, .ref b28, .ref b29, .ref b30, .int 0, .ref b31, .ref b32, .int 0, .ref b33, .ref b34, .ref b35, .ref b36, .ref b37, .int 0, .ref b38, .ref b39, .ref b40])), (b2, .inl (G.2 0, 503, .inl (upd (fun _ => 0) 501 1)))] H := hP
    have hD := z_tie hP hD rfl
    refine W.widen (k := 0) (n := 0) (Nat.le_of_ble_eq_true rfl) (Nat.le_of_ble_eq_true rfl) ?_
    refine lv_ishl hx hb d_Model_cover_40 ?_
    refine z_topi (y := 1) (by decide +kernel) ?_
    refine lv_icmp_ge (tgt := 78) hx hb d_Model_cover_41 (by decide) (fun hc => absurd hc (by decide +kernel)) (fun _ => ?_)
    refine lv_iload hx hb d_Model_cover_44 (lv_at hl 0 rfl) ?_
    refine z_callS (index := 308) (As := [.int 0]) (rest := []) (wr := [(b20, .inl (G.2 0, 2, .inl (upd (fun _ => 0) 0 0))), (b11, .inl (G.2 0, 4820, .inl (upd (upd (upd (upd (upd (upd (upd (upd (upd (upd (fun _ => 0) 0 (-1)) 1 (-1)) 2 (-1)) 3 (-1)) 4 (-1)) 5 (-1)) 6 (-1)) 7 (-1)) 8 (-1)) 9 (-1)))), (b14, .inl (G.2 0, 482, .inl (upd (upd (fun _ => 0) 0 0) 0 0))), (b16, .inl (G.2 0, 2, .inl (upd (fun _ => 0) 0 0))), (b10, .inl (G.2 0, 2, .inl (upd (upd (fun _ => 0) 0 0) 0 1))), (b24, .inl (G.2 1, 4096, .inr (.inl (fun _ => 0)))), (b26, .inl (G.2 1, 80, .inr (.inl (fun _ => 0)))), (b25, .inl (G.2 1, 4096, .inr (.inl (fun _ => 0)))), (b0, .inr (12, [.int 0, .ref b2, .ref b3, .ref b4, .ref b5, .int 0, .ref b6, .int 0, .int 0, .int 0, .int 0, .ref b7, .ref b8, .ref b9, .int 0, .ref b10, .ref b11, .ref b12, .ref b13, .ref b14, .ref b15, .ref b16, .ref b17, .ref b18, .ref b19, .ref b20, .ref b21, .int 0, .ref b22, .ref b23, .int 0, .int 0, .int 0, .int 0, .ref b24, .ref b25, .ref b26, .ref b27, .ref b28, .ref b29, .ref b30, .int 0, .ref b31, .ref b32, .int 0, .ref b33, .ref b34, .ref b35, .ref b36, .ref b37, .int 0, .ref b38, .ref b39, .ref b40])), (b2, .inl (G.2 0, 503, .inl (upd (fun _ => 0) 501 1)))]) Z (c1_Model_ones l G ) hl.1 q1487 q1488 q14 q1489 ⟨by decide, by decide, by show _ = some 1; decide +kernel⟩ ⟨Nat.le_of_ble_eq_true rfl, Nat.le_of_ble_eq_true rfl⟩ ⟨Nat.le_of_ble_eq_true rfl, Nat.le_of_ble_eq_true rfl⟩ rfl (Nat.le_of_ble_eq_true rfl) d_Model_cover_46 hP hD hS hA [] [0, 1, 2, 3, 4, 5, 6, 7, 8, 9] rfl rfl rfl rfl (by decide) (fun v w1 H locs hw_10 hP hD hS => ?_)
    obtain ⟨rfl, rfl⟩ := hw_10
    have hP : va_P G.1 classes [(b20, .inl (G.2 0, 2, .inl (upd (fun _ => 0) 0 0))), (b11, .inl (G.2 0, 4820, .inl (upd (upd (upd (upd (upd (upd (upd (upd (upd (upd (fun _ => 0) 0 (-1)) 1 (-1)) 2 (-1)) 3 (-1)) 4 (-1)) 5 (-1)) 6 (-1)) 7 (-1)) 8 (-1)) 9 (-1)))), (b14, .inl (G.2 0, 482, .inl (upd (upd (fun _ => 0) 0 0) 0 0))), (b16, .inl (G.2 0, 2, .inl (upd (fun _ => 0) 0 0))), (b10, .inl (G.2 0, 2, .inl (upd (upd (fun _ => 0) 0 0) 0 1))), (b24, .inl (G.2 1, 4096, .inr (.inl (fun _ => 0)))), (b26, .inl (G.2 1, 80, .inr (.inl (fun _ => 0)))), (b25, .inl (G.2 1, 4096, .inr (.inl (fun _ => 0)))), (b0, .inr (12, [.int 0, .ref b2, .ref b3, .ref b4, .ref b5, .int 0, .ref b6, .int 0, .int 0, .int 0, .int 0, .ref b7, .ref b8, .ref b9, .int 0, .ref b10, .ref b11, .ref b12, .ref b13, .ref b14, .ref b15, .ref b16, .ref b17, .ref b18, .ref b19, .ref b20, .ref b21, .int 0, .ref b22, .ref b23, .int 0, .int 0, .int 0, .int 0, .ref b24, .ref b25, .ref b26, .ref b27, .ref b28, .ref b29, .ref b30, .int 0, .ref b31, .ref b32, .int 0, .ref b33, .ref b34, .ref b35, .ref b36, .ref b37, .int 0, .ref b38, .ref b39, .ref b40])), (b2, .inl (G.2 0, 503, .inl (upd (fun _ => 0) 501 1)))] H := hP
    have hD := z_tie hP hD rfl
    refine W.widen (k := 0) (n := 0) (Nat.le_of_ble_eq_true rfl) (Nat.le_of_ble_eq_true rfl) ?_
    refine lv_istore (lv' := [(5, .int 0), (4, .int 0), (3, .int 21), (2, .int 0), (0, .ref b0), (1, .int p0)]) hx hb d_Model_cover_49 hl (by decide) rfl (fun ls hl => ?_)
    refine lv_iload hx hb d_Model_cover_51 (lv_at hl 0 rfl) ?_
    refine lv_iload_n hx hb d_Model_cover_53 rfl (lv_at hl 2 rfl) ?_
    refine lv_icmp_ge (tgt := 72) hx hb d_Model_cover_54 (by decide) (fun hc => absurd hc (by decide +kernel)) (fun _ => ?_)
    refine lv_aload_n hx hb d_Model_cover_57 rfl (lv_at hl 4 rfl) ?_
    refine lv_iload hx hb d_Model_cover_58 (lv_at hl 1 rfl) ?_
    refine z_callV (index := 311) (As := [.int 0]) (rest := []) (wr := [(b20, .inl (G.2 0, 2, .inl (upd (fun _ => 0) 0 0))), (b11, .inl (G.2 0, 4820, .inl (upd (upd (upd (upd (upd (upd (upd (upd (upd (upd (fun _ => 0) 0 (-1)) 1 (-1)) 2 (-1)) 3 (-1)) 4 (-1)) 5 (-1)) 6 (-1)) 7 (-1)) 8 (-1)) 9 (-1)))), (b14, .inl (G.2 0, 482, .inl (upd (upd (fun _ => 0) 0 0) 0 0))), (b16, .inl (G.2 0, 2, .inl (upd (fun _ => 0) 0 0))), (b10, .inl (G.2 0, 2, .inl (upd (upd (fun _ => 0) 0 0) 0 1))), (b26, .inl (G.2 1, 80, .inr (.inl (fun _ => 0)))), (b2, .inl (G.2 0, 503, .inl (upd (fun _ => 0) 501 1)))]) Z (c1_Model_coversAll l G (b0) (b2) (b3) (b4) (b5) (b6) (b7) (b8) (b9) (b10) (b11) (b12) (b13) (b14) (b15) (b16) (b17) (b18) (b19) (b20) (b21) (b22) (b23) (b24) (b25) (b26) (b27) (b28) (b29) (b30) (b31) (b32) (b33) (b34) (b35) (b36) (b37) (b38) (b39) (b40)) hl.1 q1490 q1492 qs79 q14 q1493 ⟨by decide, by decide, by show _ = some 1; decide +kernel⟩ ⟨Nat.le_of_ble_eq_true rfl, Nat.le_of_ble_eq_true rfl⟩ ⟨Nat.le_of_ble_eq_true rfl, Nat.le_of_ble_eq_true rfl⟩ rfl (Nat.le_of_ble_eq_true rfl) d_Model_cover_60 hP hD hS hA 8 12 rfl rfl rfl [8, 5, 7] [0, 1, 2, 3, 4, 6, 9] rfl rfl rfl rfl (by decide) (fun v w1 H locs hw_11 hP hD hS => ?_)
    obtain ⟨rfl, rfl⟩ := hw_11
    have hP : va_P G.1 classes [(b20, .inl (G.2 0, 2, .inl (upd (fun _ => 0) 0 0))), (b11, .inl (G.2 0, 4820, .inl (upd (upd (upd (upd (upd (upd (upd (upd (upd (upd (fun _ => 0) 0 (-1)) 1 (-1)) 2 (-1)) 3 (-1)) 4 (-1)) 5 (-1)) 6 (-1)) 7 (-1)) 8 (-1)) 9 (-1)))), (b14, .inl (G.2 0, 482, .inl (upd (upd (fun _ => 0) 0 0) 0 0))), (b16, .inl (G.2 0, 2, .inl (upd (fun _ => 0) 0 0))), (b10, .inl (G.2 0, 2, .inl (upd (upd (fun _ => 0) 0 0) 0 1))), (b26, .inl (G.2 1, 80, .inr (.inl (fun _ => 0)))), (b2, .inl (G.2 0, 503, .inl (upd (fun _ => 0) 501 1))), (b0, .inr (12, [.int 0, .ref b2, .ref b3, .ref b4, .ref b5, .int 0, .ref b6, .int 0, .int 0, .int 0, .int 0, .ref b7, .ref b8, .ref b9, .int 0, .ref b10, .ref b11, .ref b12, .ref b13, .ref b14, .ref b15, .ref b16, .ref b17, .ref b18, .ref b19, .ref b20, .ref b21, .int 0, .ref b22, .ref b23, .int 0, .int 0, .int 0, .int 0, .ref b24, .ref b25, .ref b26, .ref b27, .ref b28, .ref b29, .ref b30, .int 0, .ref b31, .ref b32, .int 0, .ref b33, .ref b34, .ref b35, .ref b36, .ref b37, .int 0, .ref b38, .ref b39, .ref b40])), (b24, .inl (G.2 1, 4096, .inr (.inl (fun _ => 0)))), (b25, .inl (G.2 1, 4096, .inr (.inl (fun _ => 0))))] H := hP
    have hD := z_tie hP hD rfl
    refine W.widen (k := 0) (n := 0) (Nat.le_of_ble_eq_true rfl) (Nat.le_of_ble_eq_true rfl) ?_
    refine lv_if_eq (tgt := 72) hx hb d_Model_cover_63 (by decide) (fun hc => absurd hc (by decide +kernel)) (fun _ => ?_)
    refine lv_iload hx hb d_Model_cover_66 (lv_at hl 1 rfl) ?_
    refine lv_istore_n (lv' := [(2, .int 0), (5, .int 0), (4, .int 0), (3, .int 21), (0, .ref b0), (1, .int p0)]) hx hb d_Model_cover_68 rfl hl (by decide) rfl (fun ls hl => ?_)
    refine lv_iload hx hb d_Model_cover_69 (lv_at hl 1 rfl) ?_
    refine lv_istore_n (lv' := [(3, .int 0), (2, .int 0), (5, .int 0), (4, .int 0), (0, .ref b0), (1, .int p0)]) hx hb d_Model_cover_71 rfl hl (by decide) rfl (fun ls hl => ?_)
    refine lv_iinc (v := 1) (lv' := [(4, .int 1), (3, .int 0), (2, .int 0), (5, .int 0), (0, .ref b0), (1, .int p0)]) hx hb d_Model_cover_72 hl (k := 3) rfl (by decide +kernel) (by decide) rfl (fun ls hl => ?_)
    refine lv_goto (tgt := 33) hx hb d_Model_cover_75 (by decide) ?_
    refine lv_iload hx hb d_Model_cover_33 (lv_at hl 0 rfl) ?_
    refine lv_iconst (v := 1) hx hb d_Model_cover_35 (by decide) ?_
    refine lv_aload_n hx hb d_Model_cover_36 rfl (lv_at hl 4 rfl) ?_
    refine z_callV (index := 134) (As := []) (rest := [.int 1, .int 1]) (wr := [(b20, .inl (G.2 0, 2, .inl (upd (fun _ => 0) 0 0))), (b11, .inl (G.2 0, 4820, .inl (upd (upd (upd (upd (upd (upd (upd (upd (upd (upd (fun _ => 0) 0 (-1)) 1 (-1)) 2 (-1)) 3 (-1)) 4 (-1)) 5 (-1)) 6 (-1)) 7 (-1)) 8 (-1)) 9 (-1)))), (b14, .inl (G.2 0, 482, .inl (upd (upd (fun _ => 0) 0 0) 0 0))), (b16, .inl (G.2 0, 2, .inl (upd (fun _ => 0) 0 0))), (b10, .inl (G.2 0, 2, .inl (upd (upd (fun _ => 0) 0 0) 0 1))), (b26, .inl (G.2 1, 80, .inr (.inl (fun _ => 0)))), (b24, .inl (G.2 1, 4096, .inr (.inl (fun _ => 0)))), (b25, .inl (G.2 1, 4096, .inr (.inl (fun _ => 0))))]) Z (c2_Model_many l G (b0) (b2) (b3) (b4) (b5) (b6) (b7) (b8) (b9) (b10) (b11) (b12) (b13) (b14) (b15) (b16) (b17) (b18) (b19) (b20) (b21) (b22) (b23) (b24) (b25) (b26) (b27) (b28) (b29) (b30) (b31) (b32) (b33) (b34) (b35) (b36) (b37) (b38) (b39) (b40)) hl.1 q1324 q1326 qs51 q14 q1327 ⟨by decide, by decide, by show _ = some 0; decide +kernel⟩ ⟨Nat.le_of_ble_eq_true rfl, Nat.le_of_ble_eq_true rfl⟩ ⟨Nat.le_of_ble_eq_true rfl, Nat.le_of_ble_eq_true rfl⟩ rfl (Nat.le_of_ble_eq_true rfl) d_Model_cover_37 hP hD hS hA 7 12 rfl rfl rfl [7, 6] [0, 1, 2, 3, 4, 5, 8, 9] rfl rfl rfl rfl (by decide) (fun v w1 H locs hw_12 hP hD hS => ?_)
    obtain ⟨rfl, rfl⟩ := hw_12
    have hP : va_P G.1 classes [(b20, .inl (G.2 0, 2, .inl (upd (fun _ => 0) 0 0))), (b11, .inl (G.2 0, 4820, .inl (upd (upd (upd (upd (upd (upd (upd (upd (upd (upd (fun _ => 0) 0 (-1)) 1 (-1)) 2 (-1)) 3 (-1)) 4 (-1)) 5 (-1)) 6 (-1)) 7 (-1)) 8 (-1)) 9 (-1)))), (b14, .inl (G.2 0, 482, .inl (upd (upd (fun _ => 0) 0 0) 0 0))), (b16, .inl (G.2 0, 2, .inl (upd (fun _ => 0) 0 0))), (b10, .inl (G.2 0, 2, .inl (upd (upd (fun _ => 0) 0 0) 0 1))), (b26, .inl (G.2 1, 80, .inr (.inl (fun _ => 0)))), (b24, .inl (G.2 1, 4096, .inr (.inl (fun _ => 0)))), (b25, .inl (G.2 1, 4096, .inr (.inl (fun _ => 0)))), (b0, .inr (12, [.int 0, .ref b2, .ref b3, .ref b4, .ref b5, .int 0, .ref b6, .int 0, .int 0, .int 0, .int 0, .ref b7, .ref b8, .ref b9, .int 0, .ref b10, .ref b11, .ref b12, .ref b13, .ref b14, .ref b15, .ref b16, .ref b17, .ref b18, .ref b19, .ref b20, .ref b21, .int 0, .ref b22, .ref b23, .int 0, .int 0, .int 0, .int 0, .ref b24, .ref b25, .ref b26, .ref b27, .ref b28, .ref b29, .ref b30, .int 0, .ref b31, .ref b32, .int 0, .ref b33, .ref b34, .ref b35, .ref b36, .ref b37, .int 0, .ref b38, .ref b39, .ref b40])), (b2, .inl (G.2 0, 503, .inl (upd (fun _ => 0) 501 1)))] H := hP
    have hD := z_tie hP hD rfl
    refine W.widen (k := 0) (n := 0) (Nat.le_of_ble_eq_true rfl) (Nat.le_of_ble_eq_true rfl) ?_
    refine lv_ishl hx hb d_Model_cover_40 ?_
    refine z_topi (y := 1) (by decide +kernel) ?_
    refine lv_icmp_ge (tgt := 78) hx hb d_Model_cover_41 (by decide) (fun _ => ?_) (fun hc => absurd hc (by decide +kernel))
    refine lv_iload_n hx hb d_Model_cover_78 rfl (lv_at hl 5 rfl) ?_
    refine lv_if_ne (tgt := 86) hx hb d_Model_cover_79 (by decide) (fun hc_13 => ?_) (fun hc_13 => ?_)
    · simp only [fa_lt, fa_le, fa_eq, Int32.toInt_toInt64, li_0] at hc_13
      refine lv_iload_n hx hb d_Model_cover_86 rfl (lv_at hl 2 rfl) ?_
      exact z_iret hx hb hr hlocks hP hD hS (Nat.le_of_ble_eq_true rfl) (Nat.le_of_ble_eq_true rfl) d_Model_cover_87 (congrArg (fun z => some (Value.int z)) (by unfold a_cover; (first | rfl | (repeat (first | rw [if_pos (by omega)] | rw [if_neg (by omega)])))))
    · simp only [fa_lt, fa_le, fa_eq, Int32.toInt_toInt64, li_0] at hc_13
      refine lv_iload_n hx hb d_Model_cover_82 rfl (lv_at hl 1 rfl) ?_
      refine lv_goto (tgt := 87) hx hb d_Model_cover_83 (by decide) ?_
      exact z_iret hx hb hr hlocks hP hD hS (Nat.le_of_ble_eq_true rfl) (Nat.le_of_ble_eq_true rfl) d_Model_cover_87 (congrArg (fun z => some (Value.int z)) (by unfold a_cover; (first | rfl | (repeat (first | rw [if_pos (by omega)] | rw [if_neg (by omega)])))))
