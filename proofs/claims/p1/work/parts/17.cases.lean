set_option maxRecDepth 100000 in
set_option maxHeartbeats 4000000 in
theorem law_0 {p : Program} {e : Env} {s : State} {m : MethodId} {below : List Frame} {meth : Method} {c : Code} (l : Launch) {b : Nat} {xs : Nat → Int32} {G : zG} (Z : zC p s m #[Value.ref b] meth c code 7 "TraceMachinesLaw" G) (hr : meth.sig.returnType = ret) (hX : va_X b 5 xs s s.heap) (hbl : b < s.heap.size) (q : Nat → Nat) {H : Heap} {locs : List Loc} {ls : Array Slot} (hP : va_P G.1 classes (lawW G q) H) (hD : va_D (fun q : Nat => s.heap.size ≤ q) (lawW G q)) (hS : va_S (fun q : Nat => s.heap.size ≤ q) s.heap H locs) (hl : lv_has ls 7 [(4, .int 0), (3, .ref (q 210)), (2, .ref (q 170)), (1, .ref (q 0)), (0, .ref b)]) : W p l e room_1 s m #[Value.ref b] below meth c H locs 211 90368 (lw_Z below #[Value.ref b] s) (F0 m 164 ls []) := by
  obtain ⟨hx, hb, hml, hown, hts, hK, hN, hlocks⟩ := id Z
  have hbA : ¬ (fun q : Nat => s.heap.size ≤ q) b := Nat.not_le.mpr hbl
  have hA : ∀ q : Nat, s.heap.size ≤ q → (fun q : Nat => s.heap.size ≤ q) q := fun _ h => h
  refine lv_aload_n hx hb d_law_164 rfl (lv_at hl 3 rfl) ?_
  refine lv_aload_n hx hb d_law_165 rfl (lv_at hl 4 rfl) ?_
  refine lv_iload hx hb d_law_166 (lv_at hl 0 rfl) ?_
  refine lv_iconst (v := 1) hx hb d_law_168 (by decide) ?_
  refine lv_iadd hx hb d_law_169 ?_
  refine z_topi (y := 1) (by decide +kernel) ?_
  refine va_sld hx hb hX hbl hbA hS (i := 1) (z_in rfl) d_law_170 ?_
  refine z_topi (y := (xs 1)) (congrArg xs (by decide +kernel)) ?_
  refine z_callV (index := 19) (As := [.int (xs 1)]) (rest := []) (wr := [((q 170), .inr (12, [.int 0, .ref (q 171), .ref (q 172), .ref (q 173), .ref (q 174), .int 0, .ref (q 175), .int 0, .int 0, .int 0, .int 0, .ref (q 176), .ref (q 177), .ref (q 178), .int 0, .ref (q 179), .ref (q 180), .ref (q 181), .ref (q 182), .ref (q 183), .ref (q 184), .ref (q 185), .ref (q 186), .ref (q 187), .ref (q 188), .ref (q 189), .ref (q 190), .int 0, .ref (q 191), .ref (q 192), .int 0, .int 0, .int 0, .int 0, .ref (q 193), .ref (q 194), .ref (q 195), .ref (q 196), .ref (q 197), .ref (q 198), .ref (q 199), .int 0, .ref (q 200), .ref (q 201), .int 0, .ref (q 202), .ref (q 203), .ref (q 204), .ref (q 205), .ref (q 206), .int 0, .ref (q 207), .ref (q 208), .ref (q 209)])), ((q 175), .inl (G.2 3, 240, .inl (fun _ => 0)))]) Z (t_X_sign l G ((q 0)) ((xs 1)) ((q 1)) ((q 3)) ((q 7)) ((q 11)) ((q 12)) ((q 13)) ((q 22)) ((q 26)) ((q 27)) ((q 36)) ((q 49)) ((q 168)) ((q 52)) ((q 67)) ((q 78)) ((q 80)) ((q 81)) ((q 169)) ((q 2))) hl.1 q478 q479 q480 q1 q481 ⟨by decide, by decide, by show _ = some 1; decide +kernel⟩ ⟨Nat.le_of_ble_eq_true rfl, Nat.le_of_ble_eq_true rfl⟩ ⟨Nat.le_of_ble_eq_true rfl, Nat.le_of_ble_eq_true rfl⟩ rfl (Nat.le_of_ble_eq_true rfl) d_law_171 hP hD hS hA 0 0 rfl rfl rfl [0, 1, 2] [170, 175] rfl rfl rfl rfl (by decide) (fun v w1 H locs hw_1 hP hD hS => ?_)
  subst hw_1
  refine W.widen (k := 211) (n := 90368) (Nat.le_of_ble_eq_true rfl) (Nat.le_of_ble_eq_true rfl) ?_
  refine W.eq (g2 := F0 m 174 ls [.int (a_sign (xs 1))]) rfl ?_
  refine lv_aload_n hx hb d_law_174 rfl (lv_at hl 2 rfl) ?_
  refine lv_aload_n hx hb d_law_175 rfl (lv_at hl 4 rfl) ?_
  refine lv_iload hx hb d_law_176 (lv_at hl 0 rfl) ?_
  refine lv_iconst (v := 1) hx hb d_law_178 (by decide) ?_
  refine lv_iadd hx hb d_law_179 ?_
  refine z_topi (y := 1) (by decide +kernel) ?_
  refine va_sld hx hb hX hbl hbA hS (i := 1) (z_in rfl) d_law_180 ?_
  refine z_topi (y := (xs 1)) (congrArg xs (by decide +kernel)) ?_
  refine z_callV (index := 23) (As := [.int (xs 1)]) (rest := [.int (a_sign (xs 1))]) (wr := []) Z (t_Model_sign l G ((q 170)) ((xs 1)) ((q 171)) ((q 172)) ((q 173)) ((q 174)) ((q 175)) ((q 176)) ((q 177)) ((q 178)) ((q 179)) ((q 180)) ((q 181)) ((q 182)) ((q 183)) ((q 184)) ((q 185)) ((q 186)) ((q 187)) ((q 188)) ((q 189)) ((q 190)) ((q 191)) ((q 192)) ((q 193)) ((q 194)) ((q 195)) ((q 196)) ((q 197)) ((q 198)) ((q 199)) ((q 200)) ((q 201)) ((q 202)) ((q 203)) ((q 204)) ((q 205)) ((q 206)) ((q 207)) ((q 208)) ((q 209))) hl.1 q1277 q1278 q1279 q14 q1280 ⟨by decide, by decide, by show _ = some 1; decide +kernel⟩ ⟨Nat.le_of_ble_eq_true rfl, Nat.le_of_ble_eq_true rfl⟩ ⟨Nat.le_of_ble_eq_true rfl, Nat.le_of_ble_eq_true rfl⟩ rfl (Nat.le_of_ble_eq_true rfl) d_law_181 hP hD hS hA 0 12 rfl rfl rfl [0, 1] [] rfl rfl rfl rfl (by decide) (fun v w1 H locs hw_2 hP hD hS => ?_)
  subst hw_2
  refine W.widen (k := 211) (n := 90368) (Nat.le_of_ble_eq_true rfl) (Nat.le_of_ble_eq_true rfl) ?_
  refine W.eq (g2 := F0 m 184 ls [.int (a_sign (xs 1)), .int (a_sign (xs 1))]) rfl ?_
  refine lv_icmp_eq (tgt := 1095) hx hb d_law_184 (by decide) (fun _ => ?_) (fun hc => absurd rfl hc)
  exact law_tail l Z hr hX hbl hS (Nat.le_of_ble_eq_true rfl) (Nat.le_of_ble_eq_true rfl) (lv_sub hl [4, 0] rfl)
set_option maxRecDepth 100000 in
set_option maxHeartbeats 4000000 in
theorem law_1 {p : Program} {e : Env} {s : State} {m : MethodId} {below : List Frame} {meth : Method} {c : Code} (l : Launch) {b : Nat} {xs : Nat → Int32} {G : zG} (Z : zC p s m #[Value.ref b] meth c code 7 "TraceMachinesLaw" G) (hr : meth.sig.returnType = ret) (hX : va_X b 5 xs s s.heap) (hbl : b < s.heap.size) (q : Nat → Nat) {H : Heap} {locs : List Loc} {ls : Array Slot} (hP : va_P G.1 classes (lawW G q) H) (hD : va_D (fun q : Nat => s.heap.size ≤ q) (lawW G q)) (hS : va_S (fun q : Nat => s.heap.size ≤ q) s.heap H locs) (hl : lv_has ls 7 [(4, .int 0), (3, .ref (q 210)), (2, .ref (q 170)), (1, .ref (q 0)), (0, .ref b)]) : W p l e room_1 s m #[Value.ref b] below meth c H locs 211 90368 (lw_Z below #[Value.ref b] s) (F0 m 189 ls []) := by
  obtain ⟨hx, hb, hml, hown, hts, hK, hN, hlocks⟩ := id Z
  have hbA : ¬ (fun q : Nat => s.heap.size ≤ q) b := Nat.not_le.mpr hbl
  have hA : ∀ q : Nat, s.heap.size ≤ q → (fun q : Nat => s.heap.size ≤ q) q := fun _ h => h
  refine lv_aload_n hx hb d_law_189 rfl (lv_at hl 3 rfl) ?_
  refine lv_aload_n hx hb d_law_190 rfl (lv_at hl 4 rfl) ?_
  refine lv_iload hx hb d_law_191 (lv_at hl 0 rfl) ?_
  refine lv_iconst (v := 1) hx hb d_law_193 (by decide) ?_
  refine lv_iadd hx hb d_law_194 ?_
  refine z_topi (y := 1) (by decide +kernel) ?_
  refine va_sld hx hb hX hbl hbA hS (i := 1) (z_in rfl) d_law_195 ?_
  refine z_topi (y := (xs 1)) (congrArg xs (by decide +kernel)) ?_
  refine z_callV (index := 24) (As := [.int (xs 1)]) (rest := []) (wr := [((q 170), .inr (12, [.int 0, .ref (q 171), .ref (q 172), .ref (q 173), .ref (q 174), .int 0, .ref (q 175), .int 0, .int 0, .int 0, .int 0, .ref (q 176), .ref (q 177), .ref (q 178), .int 0, .ref (q 179), .ref (q 180), .ref (q 181), .ref (q 182), .ref (q 183), .ref (q 184), .ref (q 185), .ref (q 186), .ref (q 187), .ref (q 188), .ref (q 189), .ref (q 190), .int 0, .ref (q 191), .ref (q 192), .int 0, .int 0, .int 0, .int 0, .ref (q 193), .ref (q 194), .ref (q 195), .ref (q 196), .ref (q 197), .ref (q 198), .ref (q 199), .int 0, .ref (q 200), .ref (q 201), .int 0, .ref (q 202), .ref (q 203), .ref (q 204), .ref (q 205), .ref (q 206), .int 0, .ref (q 207), .ref (q 208), .ref (q 209)]))]) Z (t_X_end l G ((q 0)) ((xs 1)) ((q 1)) ((q 3)) ((q 7)) ((q 11)) ((q 12)) ((q 13)) ((q 22)) ((q 26)) ((q 27)) ((q 36)) ((q 49)) ((q 168)) ((q 52)) ((q 67)) ((q 78)) ((q 80)) ((q 81)) ((q 169)) ((q 2))) hl.1 q486 q487 q488 q1 q489 ⟨by decide, by decide, by show _ = some 1; decide +kernel⟩ ⟨Nat.le_of_ble_eq_true rfl, Nat.le_of_ble_eq_true rfl⟩ ⟨Nat.le_of_ble_eq_true rfl, Nat.le_of_ble_eq_true rfl⟩ rfl (Nat.le_of_ble_eq_true rfl) d_law_196 hP hD hS hA 0 0 rfl rfl rfl [0, 1] [170] rfl rfl rfl rfl (by decide) (fun v w1 H locs hw_1 hP hD hS => ?_)
  subst hw_1
  refine W.widen (k := 211) (n := 90368) (Nat.le_of_ble_eq_true rfl) (Nat.le_of_ble_eq_true rfl) ?_
  refine W.eq (g2 := F0 m 199 ls [.int (a_end (xs 1))]) rfl ?_
  refine lv_aload_n hx hb d_law_199 rfl (lv_at hl 2 rfl) ?_
  refine lv_aload_n hx hb d_law_200 rfl (lv_at hl 4 rfl) ?_
  refine lv_iload hx hb d_law_201 (lv_at hl 0 rfl) ?_
  refine lv_iconst (v := 1) hx hb d_law_203 (by decide) ?_
  refine lv_iadd hx hb d_law_204 ?_
  refine z_topi (y := 1) (by decide +kernel) ?_
  refine va_sld hx hb hX hbl hbA hS (i := 1) (z_in rfl) d_law_205 ?_
  refine z_topi (y := (xs 1)) (congrArg xs (by decide +kernel)) ?_
  refine z_callV (index := 28) (As := [.int (xs 1)]) (rest := [.int (a_end (xs 1))]) (wr := []) Z (t_Model_end l G ((q 170)) ((xs 1)) ((q 171)) ((q 172)) ((q 173)) ((q 174)) ((q 175)) ((q 176)) ((q 177)) ((q 178)) ((q 179)) ((q 180)) ((q 181)) ((q 182)) ((q 183)) ((q 184)) ((q 185)) ((q 186)) ((q 187)) ((q 188)) ((q 189)) ((q 190)) ((q 191)) ((q 192)) ((q 193)) ((q 194)) ((q 195)) ((q 196)) ((q 197)) ((q 198)) ((q 199)) ((q 200)) ((q 201)) ((q 202)) ((q 203)) ((q 204)) ((q 205)) ((q 206)) ((q 207)) ((q 208)) ((q 209))) hl.1 q1281 q1282 q1283 q14 q1284 ⟨by decide, by decide, by show _ = some 1; decide +kernel⟩ ⟨Nat.le_of_ble_eq_true rfl, Nat.le_of_ble_eq_true rfl⟩ ⟨Nat.le_of_ble_eq_true rfl, Nat.le_of_ble_eq_true rfl⟩ rfl (Nat.le_of_ble_eq_true rfl) d_law_206 hP hD hS hA 0 12 rfl rfl rfl [0] [] rfl rfl rfl rfl (by decide) (fun v w1 H locs hw_2 hP hD hS => ?_)
  subst hw_2
  refine W.widen (k := 211) (n := 90368) (Nat.le_of_ble_eq_true rfl) (Nat.le_of_ble_eq_true rfl) ?_
  refine W.eq (g2 := F0 m 209 ls [.int (a_end (xs 1)), .int (a_end (xs 1))]) rfl ?_
  refine lv_icmp_eq (tgt := 1095) hx hb d_law_209 (by decide) (fun _ => ?_) (fun hc => absurd rfl hc)
  exact law_tail l Z hr hX hbl hS (Nat.le_of_ble_eq_true rfl) (Nat.le_of_ble_eq_true rfl) (lv_sub hl [4, 0] rfl)
set_option maxRecDepth 100000 in
set_option maxHeartbeats 4000000 in
theorem law_2 {p : Program} {e : Env} {s : State} {m : MethodId} {below : List Frame} {meth : Method} {c : Code} (l : Launch) {b : Nat} {xs : Nat → Int32} {G : zG} (Z : zC p s m #[Value.ref b] meth c code 7 "TraceMachinesLaw" G) (hr : meth.sig.returnType = ret) (hX : va_X b 5 xs s s.heap) (hbl : b < s.heap.size) (q : Nat → Nat) {H : Heap} {locs : List Loc} {ls : Array Slot} (hP : va_P G.1 classes (lawW G q) H) (hD : va_D (fun q : Nat => s.heap.size ≤ q) (lawW G q)) (hS : va_S (fun q : Nat => s.heap.size ≤ q) s.heap H locs) (hl : lv_has ls 7 [(4, .int 0), (3, .ref (q 210)), (2, .ref (q 170)), (1, .ref (q 0)), (0, .ref b)]) : W p l e room_1 s m #[Value.ref b] below meth c H locs 211 90368 (lw_Z below #[Value.ref b] s) (F0 m 214 ls []) := by
  obtain ⟨hx, hb, hml, hown, hts, hK, hN, hlocks⟩ := id Z
  have hbA : ¬ (fun q : Nat => s.heap.size ≤ q) b := Nat.not_le.mpr hbl
  have hA : ∀ q : Nat, s.heap.size ≤ q → (fun q : Nat => s.heap.size ≤ q) q := fun _ h => h
  refine lv_aload_n hx hb d_law_214 rfl (lv_at hl 3 rfl) ?_
  refine z_callV (index := 29) (As := []) (rest := []) (wr := [((q 170), .inr (12, [.int 0, .ref (q 171), .ref (q 172), .ref (q 173), .ref (q 174), .int 0, .ref (q 175), .int 0, .int 0, .int 0, .int 0, .ref (q 176), .ref (q 177), .ref (q 178), .int 0, .ref (q 179), .ref (q 180), .ref (q 181), .ref (q 182), .ref (q 183), .ref (q 184), .ref (q 185), .ref (q 186), .ref (q 187), .ref (q 188), .ref (q 189), .ref (q 190), .int 0, .ref (q 191), .ref (q 192), .int 0, .int 0, .int 0, .int 0, .ref (q 193), .ref (q 194), .ref (q 195), .ref (q 196), .ref (q 197), .ref (q 198), .ref (q 199), .int 0, .ref (q 200), .ref (q 201), .int 0, .ref (q 202), .ref (q 203), .ref (q 204), .ref (q 205), .ref (q 206), .int 0, .ref (q 207), .ref (q 208), .ref (q 209)])), ((q 176), .inl (G.2 0, 503, .inl (fun _ => 0))), ((q 171), .inl (G.2 0, 503, .inl (upd (fun _ => 0) 501 1))), ((q 174), .inl (G.2 0, 4024, .inl (fun _ => 0)))]) Z (t_X_traces l G ((q 0)) ((q 1)) ((q 3)) ((q 7)) ((q 11)) ((q 12)) ((q 13)) ((q 22)) ((q 26)) ((q 27)) ((q 36)) ((q 49)) ((q 168)) ((q 52)) ((q 67)) ((q 78)) ((q 80)) ((q 81)) ((q 169)) ((q 4)) ((q 5)) ((q 6)) ((q 8)) ((q 9)) ((q 10)) ((q 2)) ((q 84)) ((q 88)) ((q 92)) ((q 96)) ((q 100)) ((q 104)) ((q 108)) ((q 112)) ((q 85)) ((q 86)) ((q 87)) ((q 14)) ((q 15)) ((q 16)) ((q 17)) ((q 18)) ((q 19)) ((q 20)) ((q 21)) ((q 116)) ((q 129)) ((q 142)) ((q 155)) ((q 117)) ((q 118)) ((q 119)) ((q 120)) ((q 121)) ((q 122)) ((q 123)) ((q 124)) ((q 125)) ((q 126)) ((q 127)) ((q 128)) ((q 130)) ((q 131)) ((q 132)) ((q 133)) ((q 134)) ((q 135)) ((q 136)) ((q 137)) ((q 138)) ((q 139)) ((q 140)) ((q 141)) ((q 143)) ((q 144)) ((q 145)) ((q 146)) ((q 147)) ((q 148)) ((q 149)) ((q 150)) ((q 151)) ((q 152)) ((q 153)) ((q 154)) ((q 156)) ((q 157)) ((q 158)) ((q 159)) ((q 160)) ((q 161)) ((q 162)) ((q 163)) ((q 164)) ((q 165)) ((q 166)) ((q 167)) ((q 68)) ((q 69)) ((q 72)) ((q 75)) ((q 76)) ((q 77)) ((q 79))) hl.1 q494 q495 q496 q1 q497 ⟨by decide, by decide, by show _ = some 0; decide +kernel⟩ ⟨Nat.le_of_ble_eq_true rfl, Nat.le_of_ble_eq_true rfl⟩ ⟨Nat.le_of_ble_eq_true rfl, Nat.le_of_ble_eq_true rfl⟩ rfl (Nat.le_of_ble_eq_true rfl) d_law_215 hP hD hS hA 0 0 rfl rfl rfl [0, 3, 7, 4, 8, 5, 9, 6, 10, 1, 11, 84, 85, 86, 87, 13, 26, 116, 129, 142, 155, 67, 78, 169] [170, 176, 171, 174] rfl rfl rfl rfl (by decide) (fun v w1 H locs hw_1 hP hD hS => ?_)
  subst hw_1
  refine W.widen (k := 211) (n := 90368) (Nat.le_of_ble_eq_true rfl) (Nat.le_of_ble_eq_true rfl) ?_
  refine W.eq (g2 := F0 m 218 ls [.int a_traces]) rfl ?_
  refine lv_aload_n hx hb d_law_218 rfl (lv_at hl 2 rfl) ?_
  refine z_callV (index := 33) (As := []) (rest := [.int a_traces]) (wr := []) Z (t_Model_traces l G ((q 170)) ((q 171)) ((q 172)) ((q 173)) ((q 174)) ((q 175)) ((q 176)) ((q 177)) ((q 178)) ((q 179)) ((q 180)) ((q 181)) ((q 182)) ((q 183)) ((q 184)) ((q 185)) ((q 186)) ((q 187)) ((q 188)) ((q 189)) ((q 190)) ((q 191)) ((q 192)) ((q 193)) ((q 194)) ((q 195)) ((q 196)) ((q 197)) ((q 198)) ((q 199)) ((q 200)) ((q 201)) ((q 202)) ((q 203)) ((q 204)) ((q 205)) ((q 206)) ((q 207)) ((q 208)) ((q 209))) hl.1 q1288 q1289 q1290 q14 q1291 ⟨by decide, by decide, by show _ = some 0; decide +kernel⟩ ⟨Nat.le_of_ble_eq_true rfl, Nat.le_of_ble_eq_true rfl⟩ ⟨Nat.le_of_ble_eq_true rfl, Nat.le_of_ble_eq_true rfl⟩ rfl (Nat.le_of_ble_eq_true rfl) d_law_219 hP hD hS hA 0 12 rfl rfl rfl [0, 1, 2, 3] [] rfl rfl rfl rfl (by decide) (fun v w1 H locs hw_2 hP hD hS => ?_)
  subst hw_2
  refine W.widen (k := 211) (n := 90368) (Nat.le_of_ble_eq_true rfl) (Nat.le_of_ble_eq_true rfl) ?_
  refine W.eq (g2 := F0 m 222 ls [.int a_traces, .int a_traces]) rfl ?_
  refine lv_icmp_eq (tgt := 1095) hx hb d_law_222 (by decide) (fun _ => ?_) (fun hc => absurd rfl hc)
  exact law_tail l Z hr hX hbl hS (Nat.le_of_ble_eq_true rfl) (Nat.le_of_ble_eq_true rfl) (lv_sub hl [4, 0] rfl)
set_option maxRecDepth 100000 in
set_option maxHeartbeats 4000000 in
theorem law_3 {p : Program} {e : Env} {s : State} {m : MethodId} {below : List Frame} {meth : Method} {c : Code} (l : Launch) {b : Nat} {xs : Nat → Int32} {G : zG} (Z : zC p s m #[Value.ref b] meth c code 7 "TraceMachinesLaw" G) (hr : meth.sig.returnType = ret) (hX : va_X b 5 xs s s.heap) (hbl : b < s.heap.size) (q : Nat → Nat) {H : Heap} {locs : List Loc} {ls : Array Slot} (hP : va_P G.1 classes (lawW G q) H) (hD : va_D (fun q : Nat => s.heap.size ≤ q) (lawW G q)) (hS : va_S (fun q : Nat => s.heap.size ≤ q) s.heap H locs) (hl : lv_has ls 7 [(4, .int 0), (3, .ref (q 210)), (2, .ref (q 170)), (1, .ref (q 0)), (0, .ref b)]) : W p l e room_1 s m #[Value.ref b] below meth c H locs 211 90368 (lw_Z below #[Value.ref b] s) (F0 m 227 ls []) := by
  obtain ⟨hx, hb, hml, hown, hts, hK, hN, hlocks⟩ := id Z
  have hbA : ¬ (fun q : Nat => s.heap.size ≤ q) b := Nat.not_le.mpr hbl
  have hA : ∀ q : Nat, s.heap.size ≤ q → (fun q : Nat => s.heap.size ≤ q) q := fun _ h => h
  refine lv_aload_n hx hb d_law_227 rfl (lv_at hl 3 rfl) ?_
  refine lv_aload_n hx hb d_law_228 rfl (lv_at hl 4 rfl) ?_
  refine lv_iload hx hb d_law_229 (lv_at hl 0 rfl) ?_
  refine lv_iconst (v := 1) hx hb d_law_231 (by decide) ?_
  refine lv_iadd hx hb d_law_232 ?_
  refine z_topi (y := 1) (by decide +kernel) ?_
  refine va_sld hx hb hX hbl hbA hS (i := 1) (z_in rfl) d_law_233 ?_
  refine z_topi (y := (xs 1)) (congrArg xs (by decide +kernel)) ?_
  refine z_callV (index := 34) (As := [.int (xs 1)]) (rest := []) (wr := [((q 170), .inr (12, [.int 0, .ref (q 171), .ref (q 172), .ref (q 173), .ref (q 174), .int 0, .ref (q 175), .int 0, .int 0, .int 0, .int 0, .ref (q 176), .ref (q 177), .ref (q 178), .int 0, .ref (q 179), .ref (q 180), .ref (q 181), .ref (q 182), .ref (q 183), .ref (q 184), .ref (q 185), .ref (q 186), .ref (q 187), .ref (q 188), .ref (q 189), .ref (q 190), .int 0, .ref (q 191), .ref (q 192), .int 0, .int 0, .int 0, .int 0, .ref (q 193), .ref (q 194), .ref (q 195), .ref (q 196), .ref (q 197), .ref (q 198), .ref (q 199), .int 0, .ref (q 200), .ref (q 201), .int 0, .ref (q 202), .ref (q 203), .ref (q 204), .ref (q 205), .ref (q 206), .int 0, .ref (q 207), .ref (q 208), .ref (q 209)])), ((q 171), .inl (G.2 0, 503, .inl (upd (fun _ => 0) 501 1)))]) Z (t_X_drop l G ((q 0)) ((xs 1)) ((q 1)) ((q 3)) ((q 7)) ((q 11)) ((q 12)) ((q 13)) ((q 22)) ((q 26)) ((q 27)) ((q 36)) ((q 49)) ((q 168)) ((q 52)) ((q 67)) ((q 78)) ((q 80)) ((q 81)) ((q 169)) ((q 4)) ((q 5)) ((q 6))) hl.1 q532 q533 q534 q1 q535 ⟨by decide, by decide, by show _ = some 1; decide +kernel⟩ ⟨Nat.le_of_ble_eq_true rfl, Nat.le_of_ble_eq_true rfl⟩ ⟨Nat.le_of_ble_eq_true rfl, Nat.le_of_ble_eq_true rfl⟩ rfl (Nat.le_of_ble_eq_true rfl) d_law_234 hP hD hS hA 0 0 rfl rfl rfl [0, 3] [170, 171] rfl rfl rfl rfl (by decide) (fun v w1 H locs hw_1 hP hD hS => ?_)
  subst hw_1
  refine W.widen (k := 211) (n := 90368) (Nat.le_of_ble_eq_true rfl) (Nat.le_of_ble_eq_true rfl) ?_
  refine W.eq (g2 := F0 m 237 ls [.int (a_drop (xs 1))]) rfl ?_
  refine lv_aload_n hx hb d_law_237 rfl (lv_at hl 2 rfl) ?_
  refine lv_aload_n hx hb d_law_238 rfl (lv_at hl 4 rfl) ?_
  refine lv_iload hx hb d_law_239 (lv_at hl 0 rfl) ?_
  refine lv_iconst (v := 1) hx hb d_law_241 (by decide) ?_
  refine lv_iadd hx hb d_law_242 ?_
  refine z_topi (y := 1) (by decide +kernel) ?_
  refine va_sld hx hb hX hbl hbA hS (i := 1) (z_in rfl) d_law_243 ?_
  refine z_topi (y := (xs 1)) (congrArg xs (by decide +kernel)) ?_
  refine z_callV (index := 37) (As := [.int (xs 1)]) (rest := [.int (a_drop (xs 1))]) (wr := []) Z (t_Model_drop l G ((q 170)) ((xs 1)) ((q 171)) ((q 172)) ((q 173)) ((q 174)) ((q 175)) ((q 176)) ((q 177)) ((q 178)) ((q 179)) ((q 180)) ((q 181)) ((q 182)) ((q 183)) ((q 184)) ((q 185)) ((q 186)) ((q 187)) ((q 188)) ((q 189)) ((q 190)) ((q 191)) ((q 192)) ((q 193)) ((q 194)) ((q 195)) ((q 196)) ((q 197)) ((q 198)) ((q 199)) ((q 200)) ((q 201)) ((q 202)) ((q 203)) ((q 204)) ((q 205)) ((q 206)) ((q 207)) ((q 208)) ((q 209))) hl.1 q1328 q1329 q1330 q14 q1331 ⟨by decide, by decide, by show _ = some 1; decide +kernel⟩ ⟨Nat.le_of_ble_eq_true rfl, Nat.le_of_ble_eq_true rfl⟩ ⟨Nat.le_of_ble_eq_true rfl, Nat.le_of_ble_eq_true rfl⟩ rfl (Nat.le_of_ble_eq_true rfl) d_law_244 hP hD hS hA 0 12 rfl rfl rfl [0, 1] [] rfl rfl rfl rfl (by decide) (fun v w1 H locs hw_2 hP hD hS => ?_)
  subst hw_2
  refine W.widen (k := 211) (n := 90368) (Nat.le_of_ble_eq_true rfl) (Nat.le_of_ble_eq_true rfl) ?_
  refine W.eq (g2 := F0 m 247 ls [.int (a_drop (xs 1)), .int (a_drop (xs 1))]) rfl ?_
  refine lv_icmp_eq (tgt := 1095) hx hb d_law_247 (by decide) (fun _ => ?_) (fun hc => absurd rfl hc)
  exact law_tail l Z hr hX hbl hS (Nat.le_of_ble_eq_true rfl) (Nat.le_of_ble_eq_true rfl) (lv_sub hl [4, 0] rfl)
set_option maxRecDepth 100000 in
set_option maxHeartbeats 4000000 in
theorem law_4 {p : Program} {e : Env} {s : State} {m : MethodId} {below : List Frame} {meth : Method} {c : Code} (l : Launch) {b : Nat} {xs : Nat → Int32} {G : zG} (Z : zC p s m #[Value.ref b] meth c code 7 "TraceMachinesLaw" G) (hr : meth.sig.returnType = ret) (hX : va_X b 5 xs s s.heap) (hbl : b < s.heap.size) (q : Nat → Nat) {H : Heap} {locs : List Loc} {ls : Array Slot} (hP : va_P G.1 classes (lawW G q) H) (hD : va_D (fun q : Nat => s.heap.size ≤ q) (lawW G q)) (hS : va_S (fun q : Nat => s.heap.size ≤ q) s.heap H locs) (hl : lv_has ls 7 [(4, .int 0), (3, .ref (q 210)), (2, .ref (q 170)), (1, .ref (q 0)), (0, .ref b)]) : W p l e room_1 s m #[Value.ref b] below meth c H locs 211 90368 (lw_Z below #[Value.ref b] s) (F0 m 252 ls []) := by
  obtain ⟨hx, hb, hml, hown, hts, hK, hN, hlocks⟩ := id Z
  have hbA : ¬ (fun q : Nat => s.heap.size ≤ q) b := Nat.not_le.mpr hbl
  have hA : ∀ q : Nat, s.heap.size ≤ q → (fun q : Nat => s.heap.size ≤ q) q := fun _ h => h
  refine lv_aload_n hx hb d_law_252 rfl (lv_at hl 3 rfl) ?_
  refine lv_aload_n hx hb d_law_253 rfl (lv_at hl 4 rfl) ?_
  refine lv_iload hx hb d_law_254 (lv_at hl 0 rfl) ?_
  refine lv_iconst (v := 1) hx hb d_law_256 (by decide) ?_
  refine lv_iadd hx hb d_law_257 ?_
  refine z_topi (y := 1) (by decide +kernel) ?_
  refine va_sld hx hb hX hbl hbA hS (i := 1) (z_in rfl) d_law_258 ?_
  refine z_topi (y := (xs 1)) (congrArg xs (by decide +kernel)) ?_
  refine z_callV (index := 38) (As := [.int (xs 1)]) (rest := []) (wr := [((q 170), .inr (12, [.int 0, .ref (q 171), .ref (q 172), .ref (q 173), .ref (q 174), .int 0, .ref (q 175), .int 0, .int 0, .int 0, .int 0, .ref (q 176), .ref (q 177), .ref (q 178), .int 0, .ref (q 179), .ref (q 180), .ref (q 181), .ref (q 182), .ref (q 183), .ref (q 184), .ref (q 185), .ref (q 186), .ref (q 187), .ref (q 188), .ref (q 189), .ref (q 190), .int 0, .ref (q 191), .ref (q 192), .int 0, .int 0, .int 0, .int 0, .ref (q 193), .ref (q 194), .ref (q 195), .ref (q 196), .ref (q 197), .ref (q 198), .ref (q 199), .int 0, .ref (q 200), .ref (q 201), .int 0, .ref (q 202), .ref (q 203), .ref (q 204), .ref (q 205), .ref (q 206), .int 0, .ref (q 207), .ref (q 208), .ref (q 209)])), ((q 171), .inl (G.2 0, 503, .inl (upd (fun _ => 0) 501 1))), ((q 174), .inl (G.2 0, 4024, .inl (fun _ => 0)))]) Z (t_X_depth l G ((q 0)) ((xs 1)) ((q 1)) ((q 3)) ((q 7)) ((q 11)) ((q 12)) ((q 13)) ((q 22)) ((q 26)) ((q 27)) ((q 36)) ((q 49)) ((q 168)) ((q 52)) ((q 67)) ((q 78)) ((q 80)) ((q 81)) ((q 169)) ((q 4)) ((q 5)) ((q 6)) ((q 84)) ((q 88)) ((q 92)) ((q 96)) ((q 100)) ((q 104)) ((q 108)) ((q 112)) ((q 85)) ((q 86)) ((q 87)) ((q 14)) ((q 15)) ((q 16)) ((q 17)) ((q 18)) ((q 19)) ((q 20)) ((q 21)) ((q 116)) ((q 129)) ((q 142)) ((q 155)) ((q 117)) ((q 118)) ((q 119)) ((q 120)) ((q 121)) ((q 122)) ((q 123)) ((q 124)) ((q 125)) ((q 126)) ((q 127)) ((q 128)) ((q 130)) ((q 131)) ((q 132)) ((q 133)) ((q 134)) ((q 135)) ((q 136)) ((q 137)) ((q 138)) ((q 139)) ((q 140)) ((q 141)) ((q 143)) ((q 144)) ((q 145)) ((q 146)) ((q 147)) ((q 148)) ((q 149)) ((q 150)) ((q 151)) ((q 152)) ((q 153)) ((q 154)) ((q 156)) ((q 157)) ((q 158)) ((q 159)) ((q 160)) ((q 161)) ((q 162)) ((q 163)) ((q 164)) ((q 165)) ((q 166)) ((q 167)) ((q 68)) ((q 69)) ((q 72)) ((q 75)) ((q 76)) ((q 77)) ((q 79))) hl.1 q544 q545 q546 q1 q547 ⟨by decide, by decide, by show _ = some 1; decide +kernel⟩ ⟨Nat.le_of_ble_eq_true rfl, Nat.le_of_ble_eq_true rfl⟩ ⟨Nat.le_of_ble_eq_true rfl, Nat.le_of_ble_eq_true rfl⟩ rfl (Nat.le_of_ble_eq_true rfl) d_law_259 hP hD hS hA 0 0 rfl rfl rfl [0, 3, 11, 84, 4, 85, 5, 86, 6, 87, 13, 26, 116, 129, 142, 155, 67, 78, 169] [170, 171, 174] rfl rfl rfl rfl (by decide) (fun v w1 H locs hw_1 hP hD hS => ?_)
  subst hw_1
  refine W.widen (k := 211) (n := 90368) (Nat.le_of_ble_eq_true rfl) (Nat.le_of_ble_eq_true rfl) ?_
  refine W.eq (g2 := F0 m 262 ls [.int (a_depth (xs 1))]) rfl ?_
  refine lv_aload_n hx hb d_law_262 rfl (lv_at hl 2 rfl) ?_
  refine lv_aload_n hx hb d_law_263 rfl (lv_at hl 4 rfl) ?_
  refine lv_iload hx hb d_law_264 (lv_at hl 0 rfl) ?_
  refine lv_iconst (v := 1) hx hb d_law_266 (by decide) ?_
  refine lv_iadd hx hb d_law_267 ?_
  refine z_topi (y := 1) (by decide +kernel) ?_
  refine va_sld hx hb hX hbl hbA hS (i := 1) (z_in rfl) d_law_268 ?_
  refine z_topi (y := (xs 1)) (congrArg xs (by decide +kernel)) ?_
  refine z_callV (index := 41) (As := [.int (xs 1)]) (rest := [.int (a_depth (xs 1))]) (wr := []) Z (t_Model_depth l G ((q 170)) ((xs 1)) ((q 171)) ((q 172)) ((q 173)) ((q 174)) ((q 175)) ((q 176)) ((q 177)) ((q 178)) ((q 179)) ((q 180)) ((q 181)) ((q 182)) ((q 183)) ((q 184)) ((q 185)) ((q 186)) ((q 187)) ((q 188)) ((q 189)) ((q 190)) ((q 191)) ((q 192)) ((q 193)) ((q 194)) ((q 195)) ((q 196)) ((q 197)) ((q 198)) ((q 199)) ((q 200)) ((q 201)) ((q 202)) ((q 203)) ((q 204)) ((q 205)) ((q 206)) ((q 207)) ((q 208)) ((q 209))) hl.1 q1336 q1337 q1338 q14 q1339 ⟨by decide, by decide, by show _ = some 1; decide +kernel⟩ ⟨Nat.le_of_ble_eq_true rfl, Nat.le_of_ble_eq_true rfl⟩ ⟨Nat.le_of_ble_eq_true rfl, Nat.le_of_ble_eq_true rfl⟩ rfl (Nat.le_of_ble_eq_true rfl) d_law_269 hP hD hS hA 0 12 rfl rfl rfl [0, 1, 2] [] rfl rfl rfl rfl (by decide) (fun v w1 H locs hw_2 hP hD hS => ?_)
  subst hw_2
  refine W.widen (k := 211) (n := 90368) (Nat.le_of_ble_eq_true rfl) (Nat.le_of_ble_eq_true rfl) ?_
  refine W.eq (g2 := F0 m 272 ls [.int (a_depth (xs 1)), .int (a_depth (xs 1))]) rfl ?_
  refine lv_icmp_eq (tgt := 1095) hx hb d_law_272 (by decide) (fun _ => ?_) (fun hc => absurd rfl hc)
  exact law_tail l Z hr hX hbl hS (Nat.le_of_ble_eq_true rfl) (Nat.le_of_ble_eq_true rfl) (lv_sub hl [4, 0] rfl)
set_option maxRecDepth 100000 in
set_option maxHeartbeats 4000000 in
theorem law_5 {p : Program} {e : Env} {s : State} {m : MethodId} {below : List Frame} {meth : Method} {c : Code} (l : Launch) {b : Nat} {xs : Nat → Int32} {G : zG} (Z : zC p s m #[Value.ref b] meth c code 7 "TraceMachinesLaw" G) (hr : meth.sig.returnType = ret) (hX : va_X b 5 xs s s.heap) (hbl : b < s.heap.size) (q : Nat → Nat) {H : Heap} {locs : List Loc} {ls : Array Slot} (hP : va_P G.1 classes (lawW G q) H) (hD : va_D (fun q : Nat => s.heap.size ≤ q) (lawW G q)) (hS : va_S (fun q : Nat => s.heap.size ≤ q) s.heap H locs) (hl : lv_has ls 7 [(4, .int 0), (3, .ref (q 210)), (2, .ref (q 170)), (1, .ref (q 0)), (0, .ref b)]) : W p l e room_1 s m #[Value.ref b] below meth c H locs 211 90368 (lw_Z below #[Value.ref b] s) (F0 m 277 ls []) := by
  obtain ⟨hx, hb, hml, hown, hts, hK, hN, hlocks⟩ := id Z
  have hbA : ¬ (fun q : Nat => s.heap.size ≤ q) b := Nat.not_le.mpr hbl
  have hA : ∀ q : Nat, s.heap.size ≤ q → (fun q : Nat => s.heap.size ≤ q) q := fun _ h => h
  refine lv_aload_n hx hb d_law_277 rfl (lv_at hl 3 rfl) ?_
  refine lv_aload_n hx hb d_law_278 rfl (lv_at hl 4 rfl) ?_
  refine lv_iload hx hb d_law_279 (lv_at hl 0 rfl) ?_
  refine lv_iconst (v := 1) hx hb d_law_281 (by decide) ?_
  refine lv_iadd hx hb d_law_282 ?_
  refine z_topi (y := 1) (by decide +kernel) ?_
  refine va_sld hx hb hX hbl hbA hS (i := 1) (z_in rfl) d_law_283 ?_
  refine z_topi (y := (xs 1)) (congrArg xs (by decide +kernel)) ?_
  refine z_callV (index := 42) (As := [.int (xs 1)]) (rest := []) (wr := [((q 170), .inr (12, [.int 0, .ref (q 171), .ref (q 172), .ref (q 173), .ref (q 174), .int 0, .ref (q 175), .int 0, .int 0, .int 0, .int 0, .ref (q 176), .ref (q 177), .ref (q 178), .int 0, .ref (q 179), .ref (q 180), .ref (q 181), .ref (q 182), .ref (q 183), .ref (q 184), .ref (q 185), .ref (q 186), .ref (q 187), .ref (q 188), .ref (q 189), .ref (q 190), .int 0, .ref (q 191), .ref (q 192), .int 0, .int 0, .int 0, .int 0, .ref (q 193), .ref (q 194), .ref (q 195), .ref (q 196), .ref (q 197), .ref (q 198), .ref (q 199), .int 0, .ref (q 200), .ref (q 201), .int 0, .ref (q 202), .ref (q 203), .ref (q 204), .ref (q 205), .ref (q 206), .int 0, .ref (q 207), .ref (q 208), .ref (q 209)])), ((q 171), .inl (G.2 0, 503, .inl (upd (fun _ => 0) 501 1))), ((q 174), .inl (G.2 0, 4024, .inl (fun _ => 0)))]) Z (t_X_margin l G ((q 0)) ((xs 1)) ((q 1)) ((q 3)) ((q 7)) ((q 11)) ((q 12)) ((q 13)) ((q 22)) ((q 26)) ((q 27)) ((q 36)) ((q 49)) ((q 168)) ((q 52)) ((q 67)) ((q 78)) ((q 80)) ((q 81)) ((q 169)) ((q 4)) ((q 5)) ((q 6)) ((q 84)) ((q 88)) ((q 92)) ((q 96)) ((q 100)) ((q 104)) ((q 108)) ((q 112)) ((q 85)) ((q 86)) ((q 87)) ((q 14)) ((q 15)) ((q 16)) ((q 17)) ((q 18)) ((q 19)) ((q 20)) ((q 21)) ((q 116)) ((q 129)) ((q 142)) ((q 155)) ((q 117)) ((q 118)) ((q 119)) ((q 120)) ((q 121)) ((q 122)) ((q 123)) ((q 124)) ((q 125)) ((q 126)) ((q 127)) ((q 128)) ((q 130)) ((q 131)) ((q 132)) ((q 133)) ((q 134)) ((q 135)) ((q 136)) ((q 137)) ((q 138)) ((q 139)) ((q 140)) ((q 141)) ((q 143)) ((q 144)) ((q 145)) ((q 146)) ((q 147)) ((q 148)) ((q 149)) ((q 150)) ((q 151)) ((q 152)) ((q 153)) ((q 154)) ((q 156)) ((q 157)) ((q 158)) ((q 159)) ((q 160)) ((q 161)) ((q 162)) ((q 163)) ((q 164)) ((q 165)) ((q 166)) ((q 167)) ((q 68)) ((q 69)) ((q 72)) ((q 75)) ((q 76)) ((q 77)) ((q 79))) hl.1 q551 q552 q553 q1 q554 ⟨by decide, by decide, by show _ = some 1; decide +kernel⟩ ⟨Nat.le_of_ble_eq_true rfl, Nat.le_of_ble_eq_true rfl⟩ ⟨Nat.le_of_ble_eq_true rfl, Nat.le_of_ble_eq_true rfl⟩ rfl (Nat.le_of_ble_eq_true rfl) d_law_284 hP hD hS hA 0 0 rfl rfl rfl [0, 3, 11, 84, 4, 85, 5, 86, 6, 87, 13, 26, 116, 129, 142, 155, 67, 78, 169] [170, 171, 174] rfl rfl rfl rfl (by decide) (fun v w1 H locs hw_1 hP hD hS => ?_)
  subst hw_1
  refine W.widen (k := 211) (n := 90368) (Nat.le_of_ble_eq_true rfl) (Nat.le_of_ble_eq_true rfl) ?_
  refine W.eq (g2 := F0 m 287 ls [.int (a_margin (xs 1))]) rfl ?_
  refine lv_aload_n hx hb d_law_287 rfl (lv_at hl 2 rfl) ?_
  refine lv_aload_n hx hb d_law_288 rfl (lv_at hl 4 rfl) ?_
  refine lv_iload hx hb d_law_289 (lv_at hl 0 rfl) ?_
  refine lv_iconst (v := 1) hx hb d_law_291 (by decide) ?_
  refine lv_iadd hx hb d_law_292 ?_
  refine z_topi (y := 1) (by decide +kernel) ?_
  refine va_sld hx hb hX hbl hbA hS (i := 1) (z_in rfl) d_law_293 ?_
  refine z_topi (y := (xs 1)) (congrArg xs (by decide +kernel)) ?_
  refine z_callV (index := 45) (As := [.int (xs 1)]) (rest := [.int (a_margin (xs 1))]) (wr := []) Z (t_Model_margin l G ((q 170)) ((xs 1)) ((q 171)) ((q 172)) ((q 173)) ((q 174)) ((q 175)) ((q 176)) ((q 177)) ((q 178)) ((q 179)) ((q 180)) ((q 181)) ((q 182)) ((q 183)) ((q 184)) ((q 185)) ((q 186)) ((q 187)) ((q 188)) ((q 189)) ((q 190)) ((q 191)) ((q 192)) ((q 193)) ((q 194)) ((q 195)) ((q 196)) ((q 197)) ((q 198)) ((q 199)) ((q 200)) ((q 201)) ((q 202)) ((q 203)) ((q 204)) ((q 205)) ((q 206)) ((q 207)) ((q 208)) ((q 209))) hl.1 q1344 q1345 q1346 q14 q1347 ⟨by decide, by decide, by show _ = some 1; decide +kernel⟩ ⟨Nat.le_of_ble_eq_true rfl, Nat.le_of_ble_eq_true rfl⟩ ⟨Nat.le_of_ble_eq_true rfl, Nat.le_of_ble_eq_true rfl⟩ rfl (Nat.le_of_ble_eq_true rfl) d_law_294 hP hD hS hA 0 12 rfl rfl rfl [0, 1, 2] [] rfl rfl rfl rfl (by decide) (fun v w1 H locs hw_2 hP hD hS => ?_)
  subst hw_2
  refine W.widen (k := 211) (n := 90368) (Nat.le_of_ble_eq_true rfl) (Nat.le_of_ble_eq_true rfl) ?_
  refine W.eq (g2 := F0 m 297 ls [.int (a_margin (xs 1)), .int (a_margin (xs 1))]) rfl ?_
  refine lv_icmp_eq (tgt := 1095) hx hb d_law_297 (by decide) (fun _ => ?_) (fun hc => absurd rfl hc)
  exact law_tail l Z hr hX hbl hS (Nat.le_of_ble_eq_true rfl) (Nat.le_of_ble_eq_true rfl) (lv_sub hl [4, 0] rfl)
set_option maxRecDepth 100000 in
set_option maxHeartbeats 4000000 in
theorem law_6 {p : Program} {e : Env} {s : State} {m : MethodId} {below : List Frame} {meth : Method} {c : Code} (l : Launch) {b : Nat} {xs : Nat → Int32} {G : zG} (Z : zC p s m #[Value.ref b] meth c code 7 "TraceMachinesLaw" G) (hr : meth.sig.returnType = ret) (hX : va_X b 5 xs s s.heap) (hbl : b < s.heap.size) (q : Nat → Nat) {H : Heap} {locs : List Loc} {ls : Array Slot} (hP : va_P G.1 classes (lawW G q) H) (hD : va_D (fun q : Nat => s.heap.size ≤ q) (lawW G q)) (hS : va_S (fun q : Nat => s.heap.size ≤ q) s.heap H locs) (hl : lv_has ls 7 [(4, .int 0), (3, .ref (q 210)), (2, .ref (q 170)), (1, .ref (q 0)), (0, .ref b)]) : W p l e room_1 s m #[Value.ref b] below meth c H locs 211 90368 (lw_Z below #[Value.ref b] s) (F0 m 302 ls []) := by
  obtain ⟨hx, hb, hml, hown, hts, hK, hN, hlocks⟩ := id Z
  have hbA : ¬ (fun q : Nat => s.heap.size ≤ q) b := Nat.not_le.mpr hbl
  have hA : ∀ q : Nat, s.heap.size ≤ q → (fun q : Nat => s.heap.size ≤ q) q := fun _ h => h
  refine lv_aload_n hx hb d_law_302 rfl (lv_at hl 3 rfl) ?_
  refine z_callV (index := 46) (As := []) (rest := []) (wr := [((q 170), .inr (12, [.int 0, .ref (q 171), .ref (q 172), .ref (q 173), .ref (q 174), .int 0, .ref (q 175), .int 0, .int 0, .int 0, .int 0, .ref (q 176), .ref (q 177), .ref (q 178), .int 0, .ref (q 179), .ref (q 180), .ref (q 181), .ref (q 182), .ref (q 183), .ref (q 184), .ref (q 185), .ref (q 186), .ref (q 187), .ref (q 188), .ref (q 189), .ref (q 190), .int 0, .ref (q 191), .ref (q 192), .int 0, .int 0, .int 0, .int 0, .ref (q 193), .ref (q 194), .ref (q 195), .ref (q 196), .ref (q 197), .ref (q 198), .ref (q 199), .int 0, .ref (q 200), .ref (q 201), .int 0, .ref (q 202), .ref (q 203), .ref (q 204), .ref (q 205), .ref (q 206), .int 0, .ref (q 207), .ref (q 208), .ref (q 209)]))]) Z (t_X_undo l G ((q 0)) ((q 1)) ((q 3)) ((q 7)) ((q 11)) ((q 12)) ((q 13)) ((q 22)) ((q 26)) ((q 27)) ((q 36)) ((q 49)) ((q 168)) ((q 52)) ((q 67)) ((q 78)) ((q 80)) ((q 81)) ((q 169))) hl.1 q555 q556 q557 q1 q558 ⟨by decide, by decide, by show _ = some 0; decide +kernel⟩ ⟨Nat.le_of_ble_eq_true rfl, Nat.le_of_ble_eq_true rfl⟩ ⟨Nat.le_of_ble_eq_true rfl, Nat.le_of_ble_eq_true rfl⟩ rfl (Nat.le_of_ble_eq_true rfl) d_law_303 hP hD hS hA 0 0 rfl rfl rfl [0] [170] rfl rfl rfl rfl (by decide) (fun v w1 H locs hw_1 hP hD hS => ?_)
  subst hw_1
  refine W.widen (k := 211) (n := 90368) (Nat.le_of_ble_eq_true rfl) (Nat.le_of_ble_eq_true rfl) ?_
  refine W.eq (g2 := F0 m 306 ls [.int a_undo]) rfl ?_
  refine lv_aload_n hx hb d_law_306 rfl (lv_at hl 2 rfl) ?_
  refine z_callV (index := 49) (As := []) (rest := [.int a_undo]) (wr := []) Z (t_Model_undo l G ((q 170)) ((q 171)) ((q 172)) ((q 173)) ((q 174)) ((q 175)) ((q 176)) ((q 177)) ((q 178)) ((q 179)) ((q 180)) ((q 181)) ((q 182)) ((q 183)) ((q 184)) ((q 185)) ((q 186)) ((q 187)) ((q 188)) ((q 189)) ((q 190)) ((q 191)) ((q 192)) ((q 193)) ((q 194)) ((q 195)) ((q 196)) ((q 197)) ((q 198)) ((q 199)) ((q 200)) ((q 201)) ((q 202)) ((q 203)) ((q 204)) ((q 205)) ((q 206)) ((q 207)) ((q 208)) ((q 209))) hl.1 q1348 q1349 q1350 q14 q1351 ⟨by decide, by decide, by show _ = some 0; decide +kernel⟩ ⟨Nat.le_of_ble_eq_true rfl, Nat.le_of_ble_eq_true rfl⟩ ⟨Nat.le_of_ble_eq_true rfl, Nat.le_of_ble_eq_true rfl⟩ rfl (Nat.le_of_ble_eq_true rfl) d_law_307 hP hD hS hA 0 12 rfl rfl rfl [0] [] rfl rfl rfl rfl (by decide) (fun v w1 H locs hw_2 hP hD hS => ?_)
  subst hw_2
  refine W.widen (k := 211) (n := 90368) (Nat.le_of_ble_eq_true rfl) (Nat.le_of_ble_eq_true rfl) ?_
  refine W.eq (g2 := F0 m 310 ls [.int a_undo, .int a_undo]) rfl ?_
  refine lv_icmp_eq (tgt := 1095) hx hb d_law_310 (by decide) (fun _ => ?_) (fun hc => absurd rfl hc)
  exact law_tail l Z hr hX hbl hS (Nat.le_of_ble_eq_true rfl) (Nat.le_of_ble_eq_true rfl) (lv_sub hl [4, 0] rfl)
set_option maxRecDepth 100000 in
set_option maxHeartbeats 4000000 in
theorem law_8 {p : Program} {e : Env} {s : State} {m : MethodId} {below : List Frame} {meth : Method} {c : Code} (l : Launch) {b : Nat} {xs : Nat → Int32} {G : zG} (Z : zC p s m #[Value.ref b] meth c code 7 "TraceMachinesLaw" G) (hr : meth.sig.returnType = ret) (hX : va_X b 5 xs s s.heap) (hbl : b < s.heap.size) (q : Nat → Nat) {H : Heap} {locs : List Loc} {ls : Array Slot} (hP : va_P G.1 classes (lawW G q) H) (hD : va_D (fun q : Nat => s.heap.size ≤ q) (lawW G q)) (hS : va_S (fun q : Nat => s.heap.size ≤ q) s.heap H locs) (hl : lv_has ls 7 [(4, .int 0), (3, .ref (q 210)), (2, .ref (q 170)), (1, .ref (q 0)), (0, .ref b)]) : W p l e room_1 s m #[Value.ref b] below meth c H locs 211 90368 (lw_Z below #[Value.ref b] s) (F0 m 395 ls []) := by
  obtain ⟨hx, hb, hml, hown, hts, hK, hN, hlocks⟩ := id Z
  have hbA : ¬ (fun q : Nat => s.heap.size ≤ q) b := Nat.not_le.mpr hbl
  have hA : ∀ q : Nat, s.heap.size ≤ q → (fun q : Nat => s.heap.size ≤ q) q := fun _ h => h
  refine lv_aload_n hx hb d_law_395 rfl (lv_at hl 3 rfl) ?_
  refine lv_aload_n hx hb d_law_396 rfl (lv_at hl 4 rfl) ?_
  refine lv_iload hx hb d_law_397 (lv_at hl 0 rfl) ?_
  refine lv_iconst (v := 1) hx hb d_law_399 (by decide) ?_
  refine lv_iadd hx hb d_law_400 ?_
  refine z_topi (y := 1) (by decide +kernel) ?_
  refine va_sld hx hb hX hbl hbA hS (i := 1) (z_in rfl) d_law_401 ?_
  refine z_topi (y := (xs 1)) (congrArg xs (by decide +kernel)) ?_
  refine lv_aload_n hx hb d_law_402 rfl (lv_at hl 4 rfl) ?_
  refine lv_iload hx hb d_law_403 (lv_at hl 0 rfl) ?_
  refine lv_iconst (v := 2) hx hb d_law_405 (by decide) ?_
  refine lv_iadd hx hb d_law_406 ?_
  refine z_topi (y := 2) (by decide +kernel) ?_
  refine va_sld hx hb hX hbl hbA hS (i := 2) (z_in rfl) d_law_407 ?_
  refine z_topi (y := (xs 2)) (congrArg xs (by decide +kernel)) ?_
  refine z_callV (index := 59) (As := [.int (xs 1), .int (xs 2)]) (rest := []) (wr := [((q 170), .inr (12, [.int 0, .ref (q 171), .ref (q 172), .ref (q 173), .ref (q 174), .int 0, .ref (q 175), .int 0, .int 0, .int 0, .int 0, .ref (q 176), .ref (q 177), .ref (q 178), .int 0, .ref (q 179), .ref (q 180), .ref (q 181), .ref (q 182), .ref (q 183), .ref (q 184), .ref (q 185), .ref (q 186), .ref (q 187), .ref (q 188), .ref (q 189), .ref (q 190), .int 0, .ref (q 191), .ref (q 192), .int 0, .int 0, .int 0, .int 0, .ref (q 193), .ref (q 194), .ref (q 195), .ref (q 196), .ref (q 197), .ref (q 198), .ref (q 199), .int 0, .ref (q 200), .ref (q 201), .int 0, .ref (q 202), .ref (q 203), .ref (q 204), .ref (q 205), .ref (q 206), .int 0, .ref (q 207), .ref (q 208), .ref (q 209)])), ((q 171), .inl (G.2 0, 503, .inl (upd (fun _ => 0) 501 1))), ((q 179), .inl (G.2 0, 2, .inl (fun _ => 0))), ((q 180), .inl (G.2 0, 4820, .inl (fun _ => 0))), ((q 183), .inl (G.2 0, 482, .inl (fun _ => 0))), ((q 185), .inl (G.2 0, 2, .inl (fun _ => 0))), ((q 189), .inl (G.2 0, 2, .inl (fun _ => 0)))]) Z (t_X_state l G ((q 0)) ((xs 1)) ((xs 2)) ((q 1)) ((q 3)) ((q 7)) ((q 11)) ((q 12)) ((q 13)) ((q 22)) ((q 26)) ((q 27)) ((q 36)) ((q 49)) ((q 168)) ((q 52)) ((q 67)) ((q 78)) ((q 80)) ((q 81)) ((q 169)) ((q 4)) ((q 5)) ((q 6)) ((q 116)) ((q 129)) ((q 142)) ((q 155)) ((q 14)) ((q 15)) ((q 16)) ((q 17)) ((q 18)) ((q 19)) ((q 20)) ((q 21)) ((q 130)) ((q 131)) ((q 132)) ((q 133)) ((q 134)) ((q 135)) ((q 136)) ((q 137)) ((q 138)) ((q 139)) ((q 140)) ((q 141)) ((q 23)) ((q 24)) ((q 25))) hl.1 q559 q560 q561 q1 q562 ⟨by decide, by decide, by show _ = some 2; decide +kernel⟩ ⟨Nat.le_of_ble_eq_true rfl, Nat.le_of_ble_eq_true rfl⟩ ⟨Nat.le_of_ble_eq_true rfl, Nat.le_of_ble_eq_true rfl⟩ rfl (Nat.le_of_ble_eq_true rfl) d_law_408 hP hD hS hA 0 0 rfl rfl rfl [0, 3, 26, 13, 129, 22, 25, 135, 140] [170, 171, 179, 180, 183, 185, 189] rfl rfl rfl rfl (by decide) (fun v w1 H locs hw_1 hP hD hS => ?_)
  subst hw_1
  refine W.widen (k := 211) (n := 90368) (Nat.le_of_ble_eq_true rfl) (Nat.le_of_ble_eq_true rfl) ?_
  refine W.eq (g2 := F0 m 411 ls [.int (a_state (xs 1) (xs 2))]) rfl ?_
  refine lv_aload_n hx hb d_law_411 rfl (lv_at hl 2 rfl) ?_
  refine lv_aload_n hx hb d_law_412 rfl (lv_at hl 4 rfl) ?_
  refine lv_iload hx hb d_law_413 (lv_at hl 0 rfl) ?_
  refine lv_iconst (v := 1) hx hb d_law_415 (by decide) ?_
  refine lv_iadd hx hb d_law_416 ?_
  refine z_topi (y := 1) (by decide +kernel) ?_
  refine va_sld hx hb hX hbl hbA hS (i := 1) (z_in rfl) d_law_417 ?_
  refine z_topi (y := (xs 1)) (congrArg xs (by decide +kernel)) ?_
  refine lv_aload_n hx hb d_law_418 rfl (lv_at hl 4 rfl) ?_
  refine lv_iload hx hb d_law_419 (lv_at hl 0 rfl) ?_
  refine lv_iconst (v := 2) hx hb d_law_421 (by decide) ?_
  refine lv_iadd hx hb d_law_422 ?_
  refine z_topi (y := 2) (by decide +kernel) ?_
  refine va_sld hx hb hX hbl hbA hS (i := 2) (z_in rfl) d_law_423 ?_
  refine z_topi (y := (xs 2)) (congrArg xs (by decide +kernel)) ?_
  refine z_callV (index := 63) (As := [.int (xs 1), .int (xs 2)]) (rest := [.int (a_state (xs 1) (xs 2))]) (wr := []) Z (t_Model_state l G ((q 170)) ((xs 1)) ((xs 2)) ((q 171)) ((q 172)) ((q 173)) ((q 174)) ((q 175)) ((q 176)) ((q 177)) ((q 178)) ((q 179)) ((q 180)) ((q 181)) ((q 182)) ((q 183)) ((q 184)) ((q 185)) ((q 186)) ((q 187)) ((q 188)) ((q 189)) ((q 190)) ((q 191)) ((q 192)) ((q 193)) ((q 194)) ((q 195)) ((q 196)) ((q 197)) ((q 198)) ((q 199)) ((q 200)) ((q 201)) ((q 202)) ((q 203)) ((q 204)) ((q 205)) ((q 206)) ((q 207)) ((q 208)) ((q 209))) hl.1 q1420 q1421 q1422 q14 q1423 ⟨by decide, by decide, by show _ = some 2; decide +kernel⟩ ⟨Nat.le_of_ble_eq_true rfl, Nat.le_of_ble_eq_true rfl⟩ ⟨Nat.le_of_ble_eq_true rfl, Nat.le_of_ble_eq_true rfl⟩ rfl (Nat.le_of_ble_eq_true rfl) d_law_424 hP hD hS hA 0 12 rfl rfl rfl [0, 1, 2, 3, 4, 5, 6] [] rfl rfl rfl rfl (by decide) (fun v w1 H locs hw_2 hP hD hS => ?_)
  subst hw_2
  refine W.widen (k := 211) (n := 90368) (Nat.le_of_ble_eq_true rfl) (Nat.le_of_ble_eq_true rfl) ?_
  refine W.eq (g2 := F0 m 427 ls [.int (a_state (xs 1) (xs 2)), .int (a_state (xs 1) (xs 2))]) rfl ?_
  refine lv_icmp_eq (tgt := 1095) hx hb d_law_427 (by decide) (fun _ => ?_) (fun hc => absurd rfl hc)
  exact law_tail l Z hr hX hbl hS (Nat.le_of_ble_eq_true rfl) (Nat.le_of_ble_eq_true rfl) (lv_sub hl [4, 0] rfl)
set_option maxRecDepth 100000 in
set_option maxHeartbeats 4000000 in
theorem law_9 {p : Program} {e : Env} {s : State} {m : MethodId} {below : List Frame} {meth : Method} {c : Code} (l : Launch) {b : Nat} {xs : Nat → Int32} {G : zG} (Z : zC p s m #[Value.ref b] meth c code 7 "TraceMachinesLaw" G) (hr : meth.sig.returnType = ret) (hX : va_X b 5 xs s s.heap) (hbl : b < s.heap.size) (q : Nat → Nat) {H : Heap} {locs : List Loc} {ls : Array Slot} (hP : va_P G.1 classes (lawW G q) H) (hD : va_D (fun q : Nat => s.heap.size ≤ q) (lawW G q)) (hS : va_S (fun q : Nat => s.heap.size ≤ q) s.heap H locs) (hl : lv_has ls 7 [(4, .int 0), (3, .ref (q 210)), (2, .ref (q 170)), (1, .ref (q 0)), (0, .ref b)]) : W p l e room_1 s m #[Value.ref b] below meth c H locs 211 90368 (lw_Z below #[Value.ref b] s) (F0 m 432 ls []) := by
  obtain ⟨hx, hb, hml, hown, hts, hK, hN, hlocks⟩ := id Z
  have hbA : ¬ (fun q : Nat => s.heap.size ≤ q) b := Nat.not_le.mpr hbl
  have hA : ∀ q : Nat, s.heap.size ≤ q → (fun q : Nat => s.heap.size ≤ q) q := fun _ h => h
  refine lv_aload_n hx hb d_law_432 rfl (lv_at hl 3 rfl) ?_
  refine lv_aload_n hx hb d_law_433 rfl (lv_at hl 4 rfl) ?_
  refine lv_iload hx hb d_law_434 (lv_at hl 0 rfl) ?_
  refine lv_iconst (v := 1) hx hb d_law_436 (by decide) ?_
  refine lv_iadd hx hb d_law_437 ?_
  refine z_topi (y := 1) (by decide +kernel) ?_
  refine va_sld hx hb hX hbl hbA hS (i := 1) (z_in rfl) d_law_438 ?_
  refine z_topi (y := (xs 1)) (congrArg xs (by decide +kernel)) ?_
  refine lv_aload_n hx hb d_law_439 rfl (lv_at hl 4 rfl) ?_
  refine lv_iload hx hb d_law_440 (lv_at hl 0 rfl) ?_
  refine lv_iconst (v := 2) hx hb d_law_442 (by decide) ?_
  refine lv_iadd hx hb d_law_443 ?_
  refine z_topi (y := 2) (by decide +kernel) ?_
  refine va_sld hx hb hX hbl hbA hS (i := 2) (z_in rfl) d_law_444 ?_
  refine z_topi (y := (xs 2)) (congrArg xs (by decide +kernel)) ?_
  refine z_callV (index := 64) (As := [.int (xs 1), .int (xs 2)]) (rest := []) (wr := [((q 170), .inr (12, [.int 0, .ref (q 171), .ref (q 172), .ref (q 173), .ref (q 174), .int 0, .ref (q 175), .int 0, .int 0, .int 0, .int 0, .ref (q 176), .ref (q 177), .ref (q 178), .int 0, .ref (q 179), .ref (q 180), .ref (q 181), .ref (q 182), .ref (q 183), .ref (q 184), .ref (q 185), .ref (q 186), .ref (q 187), .ref (q 188), .ref (q 189), .ref (q 190), .int 0, .ref (q 191), .ref (q 192), .int 0, .int 0, .int 0, .int 0, .ref (q 193), .ref (q 194), .ref (q 195), .ref (q 196), .ref (q 197), .ref (q 198), .ref (q 199), .int 0, .ref (q 200), .ref (q 201), .int 0, .ref (q 202), .ref (q 203), .ref (q 204), .ref (q 205), .ref (q 206), .int 0, .ref (q 207), .ref (q 208), .ref (q 209)])), ((q 171), .inl (G.2 0, 503, .inl (upd (fun _ => 0) 501 1))), ((q 179), .inl (G.2 0, 2, .inl (fun _ => 0))), ((q 180), .inl (G.2 0, 4820, .inl (fun _ => 0))), ((q 183), .inl (G.2 0, 482, .inl (fun _ => 0))), ((q 185), .inl (G.2 0, 2, .inl (fun _ => 0))), ((q 189), .inl (G.2 0, 2, .inl (fun _ => 0)))]) Z (t_X_edge l G ((q 0)) ((xs 1)) ((xs 2)) ((q 1)) ((q 3)) ((q 7)) ((q 11)) ((q 12)) ((q 13)) ((q 22)) ((q 26)) ((q 27)) ((q 36)) ((q 49)) ((q 168)) ((q 52)) ((q 67)) ((q 78)) ((q 80)) ((q 81)) ((q 169)) ((q 4)) ((q 5)) ((q 6)) ((q 116)) ((q 129)) ((q 142)) ((q 155)) ((q 14)) ((q 15)) ((q 16)) ((q 17)) ((q 18)) ((q 19)) ((q 20)) ((q 21)) ((q 130)) ((q 131)) ((q 132)) ((q 133)) ((q 134)) ((q 135)) ((q 136)) ((q 137)) ((q 138)) ((q 139)) ((q 140)) ((q 141)) ((q 23)) ((q 24)) ((q 25))) hl.1 q668 q669 q670 q1 q671 ⟨by decide, by decide, by show _ = some 2; decide +kernel⟩ ⟨Nat.le_of_ble_eq_true rfl, Nat.le_of_ble_eq_true rfl⟩ ⟨Nat.le_of_ble_eq_true rfl, Nat.le_of_ble_eq_true rfl⟩ rfl (Nat.le_of_ble_eq_true rfl) d_law_445 hP hD hS hA 0 0 rfl rfl rfl [0, 3, 26, 13, 129, 22, 25, 135, 140] [170, 171, 179, 180, 183, 185, 189] rfl rfl rfl rfl (by decide) (fun v w1 H locs hw_1 hP hD hS => ?_)
  subst hw_1
  refine W.widen (k := 211) (n := 90368) (Nat.le_of_ble_eq_true rfl) (Nat.le_of_ble_eq_true rfl) ?_
  refine W.eq (g2 := F0 m 448 ls [.int (a_edge (xs 1) (xs 2))]) rfl ?_
  refine lv_aload_n hx hb d_law_448 rfl (lv_at hl 2 rfl) ?_
  refine lv_aload_n hx hb d_law_449 rfl (lv_at hl 4 rfl) ?_
  refine lv_iload hx hb d_law_450 (lv_at hl 0 rfl) ?_
  refine lv_iconst (v := 1) hx hb d_law_452 (by decide) ?_
  refine lv_iadd hx hb d_law_453 ?_
  refine z_topi (y := 1) (by decide +kernel) ?_
  refine va_sld hx hb hX hbl hbA hS (i := 1) (z_in rfl) d_law_454 ?_
  refine z_topi (y := (xs 1)) (congrArg xs (by decide +kernel)) ?_
  refine lv_aload_n hx hb d_law_455 rfl (lv_at hl 4 rfl) ?_
  refine lv_iload hx hb d_law_456 (lv_at hl 0 rfl) ?_
  refine lv_iconst (v := 2) hx hb d_law_458 (by decide) ?_
  refine lv_iadd hx hb d_law_459 ?_
  refine z_topi (y := 2) (by decide +kernel) ?_
  refine va_sld hx hb hX hbl hbA hS (i := 2) (z_in rfl) d_law_460 ?_
  refine z_topi (y := (xs 2)) (congrArg xs (by decide +kernel)) ?_
  refine z_callV (index := 67) (As := [.int (xs 1), .int (xs 2)]) (rest := [.int (a_edge (xs 1) (xs 2))]) (wr := []) Z (t_Model_edge l G ((q 170)) ((xs 1)) ((xs 2)) ((q 171)) ((q 172)) ((q 173)) ((q 174)) ((q 175)) ((q 176)) ((q 177)) ((q 178)) ((q 179)) ((q 180)) ((q 181)) ((q 182)) ((q 183)) ((q 184)) ((q 185)) ((q 186)) ((q 187)) ((q 188)) ((q 189)) ((q 190)) ((q 191)) ((q 192)) ((q 193)) ((q 194)) ((q 195)) ((q 196)) ((q 197)) ((q 198)) ((q 199)) ((q 200)) ((q 201)) ((q 202)) ((q 203)) ((q 204)) ((q 205)) ((q 206)) ((q 207)) ((q 208)) ((q 209))) hl.1 q1432 q1433 q1434 q14 q1435 ⟨by decide, by decide, by show _ = some 2; decide +kernel⟩ ⟨Nat.le_of_ble_eq_true rfl, Nat.le_of_ble_eq_true rfl⟩ ⟨Nat.le_of_ble_eq_true rfl, Nat.le_of_ble_eq_true rfl⟩ rfl (Nat.le_of_ble_eq_true rfl) d_law_461 hP hD hS hA 0 12 rfl rfl rfl [0, 1, 2, 3, 4, 5, 6] [] rfl rfl rfl rfl (by decide) (fun v w1 H locs hw_2 hP hD hS => ?_)
  subst hw_2
  refine W.widen (k := 211) (n := 90368) (Nat.le_of_ble_eq_true rfl) (Nat.le_of_ble_eq_true rfl) ?_
  refine W.eq (g2 := F0 m 464 ls [.int (a_edge (xs 1) (xs 2)), .int (a_edge (xs 1) (xs 2))]) rfl ?_
  refine lv_icmp_eq (tgt := 1095) hx hb d_law_464 (by decide) (fun _ => ?_) (fun hc => absurd rfl hc)
  exact law_tail l Z hr hX hbl hS (Nat.le_of_ble_eq_true rfl) (Nat.le_of_ble_eq_true rfl) (lv_sub hl [4, 0] rfl)
set_option maxRecDepth 100000 in
set_option maxHeartbeats 4000000 in
theorem law_10 {p : Program} {e : Env} {s : State} {m : MethodId} {below : List Frame} {meth : Method} {c : Code} (l : Launch) {b : Nat} {xs : Nat → Int32} {G : zG} (Z : zC p s m #[Value.ref b] meth c code 7 "TraceMachinesLaw" G) (hr : meth.sig.returnType = ret) (hX : va_X b 5 xs s s.heap) (hbl : b < s.heap.size) (q : Nat → Nat) {H : Heap} {locs : List Loc} {ls : Array Slot} (hP : va_P G.1 classes (lawW G q) H) (hD : va_D (fun q : Nat => s.heap.size ≤ q) (lawW G q)) (hS : va_S (fun q : Nat => s.heap.size ≤ q) s.heap H locs) (hl : lv_has ls 7 [(4, .int 0), (3, .ref (q 210)), (2, .ref (q 170)), (1, .ref (q 0)), (0, .ref b)]) : W p l e room_1 s m #[Value.ref b] below meth c H locs 211 90368 (lw_Z below #[Value.ref b] s) (F0 m 469 ls []) := by
  obtain ⟨hx, hb, hml, hown, hts, hK, hN, hlocks⟩ := id Z
  have hbA : ¬ (fun q : Nat => s.heap.size ≤ q) b := Nat.not_le.mpr hbl
  have hA : ∀ q : Nat, s.heap.size ≤ q → (fun q : Nat => s.heap.size ≤ q) q := fun _ h => h
  refine lv_aload_n hx hb d_law_469 rfl (lv_at hl 3 rfl) ?_
  refine lv_aload_n hx hb d_law_470 rfl (lv_at hl 4 rfl) ?_
  refine lv_iload hx hb d_law_471 (lv_at hl 0 rfl) ?_
  refine lv_iconst (v := 1) hx hb d_law_473 (by decide) ?_
  refine lv_iadd hx hb d_law_474 ?_
  refine z_topi (y := 1) (by decide +kernel) ?_
  refine va_sld hx hb hX hbl hbA hS (i := 1) (z_in rfl) d_law_475 ?_
  refine z_topi (y := (xs 1)) (congrArg xs (by decide +kernel)) ?_
  refine z_callV (index := 68) (As := [.int (xs 1)]) (rest := []) (wr := [((q 170), .inr (12, [.int 0, .ref (q 171), .ref (q 172), .ref (q 173), .ref (q 174), .int 0, .ref (q 175), .int 0, .int 0, .int 0, .int 0, .ref (q 176), .ref (q 177), .ref (q 178), .int 0, .ref (q 179), .ref (q 180), .ref (q 181), .ref (q 182), .ref (q 183), .ref (q 184), .ref (q 185), .ref (q 186), .ref (q 187), .ref (q 188), .ref (q 189), .ref (q 190), .int 0, .ref (q 191), .ref (q 192), .int 0, .int 0, .int 0, .int 0, .ref (q 193), .ref (q 194), .ref (q 195), .ref (q 196), .ref (q 197), .ref (q 198), .ref (q 199), .int 0, .ref (q 200), .ref (q 201), .int 0, .ref (q 202), .ref (q 203), .ref (q 204), .ref (q 205), .ref (q 206), .int 0, .ref (q 207), .ref (q 208), .ref (q 209)])), ((q 171), .inl (G.2 0, 503, .inl (upd (fun _ => 0) 501 1))), ((q 179), .inl (G.2 0, 2, .inl (fun _ => 0))), ((q 180), .inl (G.2 0, 4820, .inl (fun _ => 0))), ((q 183), .inl (G.2 0, 482, .inl (fun _ => 0))), ((q 185), .inl (G.2 0, 2, .inl (fun _ => 0))), ((q 189), .inl (G.2 0, 2, .inl (fun _ => 0)))]) Z (t_X_vague l G ((q 0)) ((xs 1)) ((q 1)) ((q 3)) ((q 7)) ((q 11)) ((q 12)) ((q 13)) ((q 22)) ((q 26)) ((q 27)) ((q 36)) ((q 49)) ((q 168)) ((q 52)) ((q 67)) ((q 78)) ((q 80)) ((q 81)) ((q 169)) ((q 4)) ((q 5)) ((q 6)) ((q 116)) ((q 129)) ((q 142)) ((q 155)) ((q 14)) ((q 15)) ((q 16)) ((q 17)) ((q 18)) ((q 19)) ((q 20)) ((q 21)) ((q 130)) ((q 131)) ((q 132)) ((q 133)) ((q 134)) ((q 135)) ((q 136)) ((q 137)) ((q 138)) ((q 139)) ((q 140)) ((q 141)) ((q 23)) ((q 24)) ((q 25))) hl.1 q684 q685 q686 q1 q687 ⟨by decide, by decide, by show _ = some 1; decide +kernel⟩ ⟨Nat.le_of_ble_eq_true rfl, Nat.le_of_ble_eq_true rfl⟩ ⟨Nat.le_of_ble_eq_true rfl, Nat.le_of_ble_eq_true rfl⟩ rfl (Nat.le_of_ble_eq_true rfl) d_law_476 hP hD hS hA 0 0 rfl rfl rfl [0, 3, 26, 13, 129, 22, 25, 135, 140] [170, 171, 179, 180, 183, 185, 189] rfl rfl rfl rfl (by decide) (fun v w1 H locs hw_1 hP hD hS => ?_)
  subst hw_1
  refine W.widen (k := 211) (n := 90368) (Nat.le_of_ble_eq_true rfl) (Nat.le_of_ble_eq_true rfl) ?_
  refine W.eq (g2 := F0 m 479 ls [.int (a_vague (xs 1))]) rfl ?_
  refine lv_aload_n hx hb d_law_479 rfl (lv_at hl 2 rfl) ?_
  refine lv_aload_n hx hb d_law_480 rfl (lv_at hl 4 rfl) ?_
  refine lv_iload hx hb d_law_481 (lv_at hl 0 rfl) ?_
  refine lv_iconst (v := 1) hx hb d_law_483 (by decide) ?_
  refine lv_iadd hx hb d_law_484 ?_
  refine z_topi (y := 1) (by decide +kernel) ?_
  refine va_sld hx hb hX hbl hbA hS (i := 1) (z_in rfl) d_law_485 ?_
  refine z_topi (y := (xs 1)) (congrArg xs (by decide +kernel)) ?_
  refine z_callV (index := 71) (As := [.int (xs 1)]) (rest := [.int (a_vague (xs 1))]) (wr := []) Z (t_Model_vague l G ((q 170)) ((xs 1)) ((q 171)) ((q 172)) ((q 173)) ((q 174)) ((q 175)) ((q 176)) ((q 177)) ((q 178)) ((q 179)) ((q 180)) ((q 181)) ((q 182)) ((q 183)) ((q 184)) ((q 185)) ((q 186)) ((q 187)) ((q 188)) ((q 189)) ((q 190)) ((q 191)) ((q 192)) ((q 193)) ((q 194)) ((q 195)) ((q 196)) ((q 197)) ((q 198)) ((q 199)) ((q 200)) ((q 201)) ((q 202)) ((q 203)) ((q 204)) ((q 205)) ((q 206)) ((q 207)) ((q 208)) ((q 209))) hl.1 q1437 q1438 q1439 q14 q1440 ⟨by decide, by decide, by show _ = some 1; decide +kernel⟩ ⟨Nat.le_of_ble_eq_true rfl, Nat.le_of_ble_eq_true rfl⟩ ⟨Nat.le_of_ble_eq_true rfl, Nat.le_of_ble_eq_true rfl⟩ rfl (Nat.le_of_ble_eq_true rfl) d_law_486 hP hD hS hA 0 12 rfl rfl rfl [0, 1, 2, 3, 4, 5, 6] [] rfl rfl rfl rfl (by decide) (fun v w1 H locs hw_2 hP hD hS => ?_)
  subst hw_2
  refine W.widen (k := 211) (n := 90368) (Nat.le_of_ble_eq_true rfl) (Nat.le_of_ble_eq_true rfl) ?_
  refine W.eq (g2 := F0 m 489 ls [.int (a_vague (xs 1)), .int (a_vague (xs 1))]) rfl ?_
  refine lv_icmp_eq (tgt := 1095) hx hb d_law_489 (by decide) (fun _ => ?_) (fun hc => absurd rfl hc)
  exact law_tail l Z hr hX hbl hS (Nat.le_of_ble_eq_true rfl) (Nat.le_of_ble_eq_true rfl) (lv_sub hl [4, 0] rfl)
set_option maxRecDepth 100000 in
set_option maxHeartbeats 4000000 in
theorem law_11 {p : Program} {e : Env} {s : State} {m : MethodId} {below : List Frame} {meth : Method} {c : Code} (l : Launch) {b : Nat} {xs : Nat → Int32} {G : zG} (Z : zC p s m #[Value.ref b] meth c code 7 "TraceMachinesLaw" G) (hr : meth.sig.returnType = ret) (hX : va_X b 5 xs s s.heap) (hbl : b < s.heap.size) (q : Nat → Nat) {H : Heap} {locs : List Loc} {ls : Array Slot} (hP : va_P G.1 classes (lawW G q) H) (hD : va_D (fun q : Nat => s.heap.size ≤ q) (lawW G q)) (hS : va_S (fun q : Nat => s.heap.size ≤ q) s.heap H locs) (hl : lv_has ls 7 [(4, .int 0), (3, .ref (q 210)), (2, .ref (q 170)), (1, .ref (q 0)), (0, .ref b)]) : W p l e room_1 s m #[Value.ref b] below meth c H locs 211 90368 (lw_Z below #[Value.ref b] s) (F0 m 494 ls []) := by
  obtain ⟨hx, hb, hml, hown, hts, hK, hN, hlocks⟩ := id Z
  have hbA : ¬ (fun q : Nat => s.heap.size ≤ q) b := Nat.not_le.mpr hbl
  have hA : ∀ q : Nat, s.heap.size ≤ q → (fun q : Nat => s.heap.size ≤ q) q := fun _ h => h
  refine lv_aload_n hx hb d_law_494 rfl (lv_at hl 3 rfl) ?_
  refine lv_aload_n hx hb d_law_495 rfl (lv_at hl 4 rfl) ?_
  refine lv_iload hx hb d_law_496 (lv_at hl 0 rfl) ?_
  refine lv_iconst (v := 1) hx hb d_law_498 (by decide) ?_
  refine lv_iadd hx hb d_law_499 ?_
  refine z_topi (y := 1) (by decide +kernel) ?_
  refine va_sld hx hb hX hbl hbA hS (i := 1) (z_in rfl) d_law_500 ?_
  refine z_topi (y := (xs 1)) (congrArg xs (by decide +kernel)) ?_
  refine lv_if_eq (tgt := 508) hx hb d_law_501 (by decide) (fun hc_1 => ?_) (fun hc_1 => ?_)
  · have _h9 := trivial -- at hc_1
    refine lv_iconst (v := 0) hx hb d_law_508 (by decide) ?_
    refine z_callV (index := 72) (As := [.int 0]) (rest := []) (wr := [((q 170), .inr (12, [.int 0, .ref (q 171), .ref (q 172), .ref (q 173), .ref (q 174), .int 0, .ref (q 175), .int 0, .int 0, .int 0, .int 0, .ref (q 176), .ref (q 177), .ref (q 178), .int 0, .ref (q 179), .ref (q 180), .ref (q 181), .ref (q 182), .ref (q 183), .ref (q 184), .ref (q 185), .ref (q 186), .ref (q 187), .ref (q 188), .ref (q 189), .ref (q 190), .int 0, .ref (q 191), .ref (q 192), .int 0, .int 0, .int 0, .int 0, .ref (q 193), .ref (q 194), .ref (q 195), .ref (q 196), .ref (q 197), .ref (q 198), .ref (q 199), .int 0, .ref (q 200), .ref (q 201), .int 0, .ref (q 202), .ref (q 203), .ref (q 204), .ref (q 205), .ref (q 206), .int 0, .ref (q 207), .ref (q 208), .ref (q 209)])), ((q 171), .inl (G.2 0, 503, .inl (upd (fun _ => 0) 501 1))), ((q 179), .inl (G.2 0, 2, .inl (fun _ => 0))), ((q 180), .inl (G.2 0, 4820, .inl (fun _ => 0))), ((q 183), .inl (G.2 0, 482, .inl (fun _ => 0))), ((q 185), .inl (G.2 0, 2, .inl (fun _ => 0))), ((q 189), .inl (G.2 0, 2, .inl (fun _ => 0))), ((q 191), .inl (G.2 1, 4, .inr (.inl (fun _ => 0))))]) Z (t_X_run l G ((q 0)) (0) ((q 1)) ((q 3)) ((q 7)) ((q 11)) ((q 12)) ((q 13)) ((q 22)) ((q 26)) ((q 27)) ((q 36)) ((q 49)) ((q 168)) ((q 52)) ((q 67)) ((q 78)) ((q 80)) ((q 81)) ((q 169)) ((q 8)) ((q 9)) ((q 10)) ((q 2)) ((q 4)) ((q 5)) ((q 6)) ((q 116)) ((q 129)) ((q 142)) ((q 155)) ((q 14)) ((q 15)) ((q 16)) ((q 17)) ((q 18)) ((q 19)) ((q 20)) ((q 21)) ((q 130)) ((q 131)) ((q 132)) ((q 133)) ((q 134)) ((q 135)) ((q 136)) ((q 137)) ((q 138)) ((q 139)) ((q 140)) ((q 141)) ((q 23)) ((q 24)) ((q 25)) ((q 50)) ((q 51))) hl.1 q692 q693 q694 q1 q695 ⟨by decide, by decide, by show _ = some 1; decide +kernel⟩ ⟨Nat.le_of_ble_eq_true rfl, Nat.le_of_ble_eq_true rfl⟩ ⟨Nat.le_of_ble_eq_true rfl, Nat.le_of_ble_eq_true rfl⟩ rfl (Nat.le_of_ble_eq_true rfl) d_law_509 hP hD hS hA 0 0 rfl rfl rfl [0, 7, 1, 8, 3, 26, 13, 129, 22, 25, 135, 140, 49, 50, 168] [170, 171, 179, 180, 183, 185, 189, 191] rfl rfl rfl rfl (by decide) (fun v w1 H locs hw_2 hP hD hS => ?_)
    subst hw_2
    refine W.widen (k := 211) (n := 90368) (Nat.le_of_ble_eq_true rfl) (Nat.le_of_ble_eq_true rfl) ?_
    refine W.eq (g2 := F0 m 512 ls [.int (a_run 0)]) rfl ?_
    refine lv_aload_n hx hb d_law_512 rfl (lv_at hl 2 rfl) ?_
    refine lv_aload_n hx hb d_law_513 rfl (lv_at hl 4 rfl) ?_
    refine lv_iload hx hb d_law_514 (lv_at hl 0 rfl) ?_
    refine lv_iconst (v := 1) hx hb d_law_516 (by decide) ?_
    refine lv_iadd hx hb d_law_517 ?_
    refine z_topi (y := 1) (by decide +kernel) ?_
    refine va_sld hx hb hX hbl hbA hS (i := 1) (z_in rfl) d_law_518 ?_
    refine z_topi (y := (xs 1)) (congrArg xs (by decide +kernel)) ?_
    refine lv_if_eq (tgt := 526) hx hb d_law_519 (by decide) (fun _ => ?_) (fun hc => absurd hc_1 hc)
    refine lv_iconst (v := 0) hx hb d_law_526 (by decide) ?_
    refine z_callV (index := 76) (As := [.int 0]) (rest := [.int (a_run 0)]) (wr := []) Z (t_Model_run l G ((q 170)) (0) ((q 171)) ((q 172)) ((q 173)) ((q 174)) ((q 175)) ((q 176)) ((q 177)) ((q 178)) ((q 179)) ((q 180)) ((q 181)) ((q 182)) ((q 183)) ((q 184)) ((q 185)) ((q 186)) ((q 187)) ((q 188)) ((q 189)) ((q 190)) ((q 191)) ((q 192)) ((q 193)) ((q 194)) ((q 195)) ((q 196)) ((q 197)) ((q 198)) ((q 199)) ((q 200)) ((q 201)) ((q 202)) ((q 203)) ((q 204)) ((q 205)) ((q 206)) ((q 207)) ((q 208)) ((q 209))) hl.1 q1449 q1450 q1451 q14 q1452 ⟨by decide, by decide, by show _ = some 1; decide +kernel⟩ ⟨Nat.le_of_ble_eq_true rfl, Nat.le_of_ble_eq_true rfl⟩ ⟨Nat.le_of_ble_eq_true rfl, Nat.le_of_ble_eq_true rfl⟩ rfl (Nat.le_of_ble_eq_true rfl) d_law_527 hP hD hS hA 0 12 rfl rfl rfl [0, 1, 2, 3, 4, 5, 6, 7] [] rfl rfl rfl rfl (by decide) (fun v w1 H locs hw_3 hP hD hS => ?_)
    subst hw_3
    refine W.widen (k := 211) (n := 90368) (Nat.le_of_ble_eq_true rfl) (Nat.le_of_ble_eq_true rfl) ?_
    refine W.eq (g2 := F0 m 530 ls [.int (a_run 0), .int (a_run 0)]) rfl ?_
    refine lv_icmp_eq (tgt := 1095) hx hb d_law_530 (by decide) (fun _ => ?_) (fun hc => absurd rfl hc)
    exact law_tail l Z hr hX hbl hS (Nat.le_of_ble_eq_true rfl) (Nat.le_of_ble_eq_true rfl) (lv_sub hl [4, 0] rfl)
  · have _h9 := trivial -- at hc_1
    refine lv_iconst (v := 1) hx hb d_law_504 (by decide) ?_
    refine lv_goto (tgt := 509) hx hb d_law_505 (by decide) ?_
    refine z_callV (index := 72) (As := [.int 1]) (rest := []) (wr := [((q 170), .inr (12, [.int 0, .ref (q 171), .ref (q 172), .ref (q 173), .ref (q 174), .int 0, .ref (q 175), .int 0, .int 0, .int 0, .int 0, .ref (q 176), .ref (q 177), .ref (q 178), .int 0, .ref (q 179), .ref (q 180), .ref (q 181), .ref (q 182), .ref (q 183), .ref (q 184), .ref (q 185), .ref (q 186), .ref (q 187), .ref (q 188), .ref (q 189), .ref (q 190), .int 0, .ref (q 191), .ref (q 192), .int 0, .int 0, .int 0, .int 0, .ref (q 193), .ref (q 194), .ref (q 195), .ref (q 196), .ref (q 197), .ref (q 198), .ref (q 199), .int 0, .ref (q 200), .ref (q 201), .int 0, .ref (q 202), .ref (q 203), .ref (q 204), .ref (q 205), .ref (q 206), .int 0, .ref (q 207), .ref (q 208), .ref (q 209)])), ((q 171), .inl (G.2 0, 503, .inl (upd (fun _ => 0) 501 1))), ((q 179), .inl (G.2 0, 2, .inl (fun _ => 0))), ((q 180), .inl (G.2 0, 4820, .inl (fun _ => 0))), ((q 183), .inl (G.2 0, 482, .inl (fun _ => 0))), ((q 185), .inl (G.2 0, 2, .inl (fun _ => 0))), ((q 189), .inl (G.2 0, 2, .inl (fun _ => 0))), ((q 191), .inl (G.2 1, 4, .inr (.inl (fun _ => 0))))]) Z (t_X_run l G ((q 0)) (1) ((q 1)) ((q 3)) ((q 7)) ((q 11)) ((q 12)) ((q 13)) ((q 22)) ((q 26)) ((q 27)) ((q 36)) ((q 49)) ((q 168)) ((q 52)) ((q 67)) ((q 78)) ((q 80)) ((q 81)) ((q 169)) ((q 8)) ((q 9)) ((q 10)) ((q 2)) ((q 4)) ((q 5)) ((q 6)) ((q 116)) ((q 129)) ((q 142)) ((q 155)) ((q 14)) ((q 15)) ((q 16)) ((q 17)) ((q 18)) ((q 19)) ((q 20)) ((q 21)) ((q 130)) ((q 131)) ((q 132)) ((q 133)) ((q 134)) ((q 135)) ((q 136)) ((q 137)) ((q 138)) ((q 139)) ((q 140)) ((q 141)) ((q 23)) ((q 24)) ((q 25)) ((q 50)) ((q 51))) hl.1 q692 q693 q694 q1 q695 ⟨by decide, by decide, by show _ = some 1; decide +kernel⟩ ⟨Nat.le_of_ble_eq_true rfl, Nat.le_of_ble_eq_true rfl⟩ ⟨Nat.le_of_ble_eq_true rfl, Nat.le_of_ble_eq_true rfl⟩ rfl (Nat.le_of_ble_eq_true rfl) d_law_509 hP hD hS hA 0 0 rfl rfl rfl [0, 7, 1, 8, 3, 26, 13, 129, 22, 25, 135, 140, 49, 50, 168] [170, 171, 179, 180, 183, 185, 189, 191] rfl rfl rfl rfl (by decide) (fun v w1 H locs hw_4 hP hD hS => ?_)
    subst hw_4
    refine W.widen (k := 211) (n := 90368) (Nat.le_of_ble_eq_true rfl) (Nat.le_of_ble_eq_true rfl) ?_
    refine W.eq (g2 := F0 m 512 ls [.int (a_run 1)]) rfl ?_
    refine lv_aload_n hx hb d_law_512 rfl (lv_at hl 2 rfl) ?_
    refine lv_aload_n hx hb d_law_513 rfl (lv_at hl 4 rfl) ?_
    refine lv_iload hx hb d_law_514 (lv_at hl 0 rfl) ?_
    refine lv_iconst (v := 1) hx hb d_law_516 (by decide) ?_
    refine lv_iadd hx hb d_law_517 ?_
    refine z_topi (y := 1) (by decide +kernel) ?_
    refine va_sld hx hb hX hbl hbA hS (i := 1) (z_in rfl) d_law_518 ?_
    refine z_topi (y := (xs 1)) (congrArg xs (by decide +kernel)) ?_
    refine lv_if_eq (tgt := 526) hx hb d_law_519 (by decide) (fun hc => absurd hc hc_1) (fun _ => ?_)
    refine lv_iconst (v := 1) hx hb d_law_522 (by decide) ?_
    refine lv_goto (tgt := 527) hx hb d_law_523 (by decide) ?_
    refine z_callV (index := 76) (As := [.int 1]) (rest := [.int (a_run 1)]) (wr := []) Z (t_Model_run l G ((q 170)) (1) ((q 171)) ((q 172)) ((q 173)) ((q 174)) ((q 175)) ((q 176)) ((q 177)) ((q 178)) ((q 179)) ((q 180)) ((q 181)) ((q 182)) ((q 183)) ((q 184)) ((q 185)) ((q 186)) ((q 187)) ((q 188)) ((q 189)) ((q 190)) ((q 191)) ((q 192)) ((q 193)) ((q 194)) ((q 195)) ((q 196)) ((q 197)) ((q 198)) ((q 199)) ((q 200)) ((q 201)) ((q 202)) ((q 203)) ((q 204)) ((q 205)) ((q 206)) ((q 207)) ((q 208)) ((q 209))) hl.1 q1449 q1450 q1451 q14 q1452 ⟨by decide, by decide, by show _ = some 1; decide +kernel⟩ ⟨Nat.le_of_ble_eq_true rfl, Nat.le_of_ble_eq_true rfl⟩ ⟨Nat.le_of_ble_eq_true rfl, Nat.le_of_ble_eq_true rfl⟩ rfl (Nat.le_of_ble_eq_true rfl) d_law_527 hP hD hS hA 0 12 rfl rfl rfl [0, 1, 2, 3, 4, 5, 6, 7] [] rfl rfl rfl rfl (by decide) (fun v w1 H locs hw_5 hP hD hS => ?_)
    subst hw_5
    refine W.widen (k := 211) (n := 90368) (Nat.le_of_ble_eq_true rfl) (Nat.le_of_ble_eq_true rfl) ?_
    refine W.eq (g2 := F0 m 530 ls [.int (a_run 1), .int (a_run 1)]) rfl ?_
    refine lv_icmp_eq (tgt := 1095) hx hb d_law_530 (by decide) (fun _ => ?_) (fun hc => absurd rfl hc)
    exact law_tail l Z hr hX hbl hS (Nat.le_of_ble_eq_true rfl) (Nat.le_of_ble_eq_true rfl) (lv_sub hl [4, 0] rfl)
set_option maxRecDepth 100000 in
set_option maxHeartbeats 4000000 in
theorem law_12 {p : Program} {e : Env} {s : State} {m : MethodId} {below : List Frame} {meth : Method} {c : Code} (l : Launch) {b : Nat} {xs : Nat → Int32} {G : zG} (Z : zC p s m #[Value.ref b] meth c code 7 "TraceMachinesLaw" G) (hr : meth.sig.returnType = ret) (hX : va_X b 5 xs s s.heap) (hbl : b < s.heap.size) (q : Nat → Nat) {H : Heap} {locs : List Loc} {ls : Array Slot} (hP : va_P G.1 classes (lawW G q) H) (hD : va_D (fun q : Nat => s.heap.size ≤ q) (lawW G q)) (hS : va_S (fun q : Nat => s.heap.size ≤ q) s.heap H locs) (hl : lv_has ls 7 [(4, .int 0), (3, .ref (q 210)), (2, .ref (q 170)), (1, .ref (q 0)), (0, .ref b)]) : W p l e room_1 s m #[Value.ref b] below meth c H locs 211 90368 (lw_Z below #[Value.ref b] s) (F0 m 535 ls []) := by
  obtain ⟨hx, hb, hml, hown, hts, hK, hN, hlocks⟩ := id Z
  have hbA : ¬ (fun q : Nat => s.heap.size ≤ q) b := Nat.not_le.mpr hbl
  have hA : ∀ q : Nat, s.heap.size ≤ q → (fun q : Nat => s.heap.size ≤ q) q := fun _ h => h
  refine lv_aload_n hx hb d_law_535 rfl (lv_at hl 3 rfl) ?_
  refine lv_aload_n hx hb d_law_536 rfl (lv_at hl 4 rfl) ?_
  refine lv_iload hx hb d_law_537 (lv_at hl 0 rfl) ?_
  refine lv_iconst (v := 1) hx hb d_law_539 (by decide) ?_
  refine lv_iadd hx hb d_law_540 ?_
  refine z_topi (y := 1) (by decide +kernel) ?_
  refine va_sld hx hb hX hbl hbA hS (i := 1) (z_in rfl) d_law_541 ?_
  refine z_topi (y := (xs 1)) (congrArg xs (by decide +kernel)) ?_
  refine z_callV (index := 77) (As := [.int (xs 1)]) (rest := []) (wr := [((q 170), .inr (12, [.int 0, .ref (q 171), .ref (q 172), .ref (q 173), .ref (q 174), .int 0, .ref (q 175), .int 0, .int 0, .int 0, .int 0, .ref (q 176), .ref (q 177), .ref (q 178), .int 0, .ref (q 179), .ref (q 180), .ref (q 181), .ref (q 182), .ref (q 183), .ref (q 184), .ref (q 185), .ref (q 186), .ref (q 187), .ref (q 188), .ref (q 189), .ref (q 190), .int 0, .ref (q 191), .ref (q 192), .int 0, .int 0, .int 0, .int 0, .ref (q 193), .ref (q 194), .ref (q 195), .ref (q 196), .ref (q 197), .ref (q 198), .ref (q 199), .int 0, .ref (q 200), .ref (q 201), .int 0, .ref (q 202), .ref (q 203), .ref (q 204), .ref (q 205), .ref (q 206), .int 0, .ref (q 207), .ref (q 208), .ref (q 209)]))]) Z (t_X_ran l G ((q 0)) ((xs 1)) ((q 1)) ((q 3)) ((q 7)) ((q 11)) ((q 12)) ((q 13)) ((q 22)) ((q 26)) ((q 27)) ((q 36)) ((q 49)) ((q 168)) ((q 52)) ((q 67)) ((q 78)) ((q 80)) ((q 81)) ((q 169))) hl.1 q755 q756 q757 q1 q758 ⟨by decide, by decide, by show _ = some 1; decide +kernel⟩ ⟨Nat.le_of_ble_eq_true rfl, Nat.le_of_ble_eq_true rfl⟩ ⟨Nat.le_of_ble_eq_true rfl, Nat.le_of_ble_eq_true rfl⟩ rfl (Nat.le_of_ble_eq_true rfl) d_law_542 hP hD hS hA 0 0 rfl rfl rfl [0, 168] [170] rfl rfl rfl rfl (by decide) (fun v w1 H locs hw_1 hP hD hS => ?_)
  subst hw_1
  refine W.widen (k := 211) (n := 90368) (Nat.le_of_ble_eq_true rfl) (Nat.le_of_ble_eq_true rfl) ?_
  refine W.eq (g2 := F0 m 545 ls [.int (a_ran (xs 1))]) rfl ?_
  refine lv_aload_n hx hb d_law_545 rfl (lv_at hl 2 rfl) ?_
  refine lv_aload_n hx hb d_law_546 rfl (lv_at hl 4 rfl) ?_
  refine lv_iload hx hb d_law_547 (lv_at hl 0 rfl) ?_
  refine lv_iconst (v := 1) hx hb d_law_549 (by decide) ?_
  refine lv_iadd hx hb d_law_550 ?_
  refine z_topi (y := 1) (by decide +kernel) ?_
  refine va_sld hx hb hX hbl hbA hS (i := 1) (z_in rfl) d_law_551 ?_
  refine z_topi (y := (xs 1)) (congrArg xs (by decide +kernel)) ?_
  refine z_callV (index := 80) (As := [.int (xs 1)]) (rest := [.int (a_ran (xs 1))]) (wr := []) Z (t_Model_ran l G ((q 170)) ((xs 1)) ((q 171)) ((q 172)) ((q 173)) ((q 174)) ((q 175)) ((q 176)) ((q 177)) ((q 178)) ((q 179)) ((q 180)) ((q 181)) ((q 182)) ((q 183)) ((q 184)) ((q 185)) ((q 186)) ((q 187)) ((q 188)) ((q 189)) ((q 190)) ((q 191)) ((q 192)) ((q 193)) ((q 194)) ((q 195)) ((q 196)) ((q 197)) ((q 198)) ((q 199)) ((q 200)) ((q 201)) ((q 202)) ((q 203)) ((q 204)) ((q 205)) ((q 206)) ((q 207)) ((q 208)) ((q 209))) hl.1 q1475 q1476 q1477 q14 q1478 ⟨by decide, by decide, by show _ = some 1; decide +kernel⟩ ⟨Nat.le_of_ble_eq_true rfl, Nat.le_of_ble_eq_true rfl⟩ ⟨Nat.le_of_ble_eq_true rfl, Nat.le_of_ble_eq_true rfl⟩ rfl (Nat.le_of_ble_eq_true rfl) d_law_552 hP hD hS hA 0 12 rfl rfl rfl [0] [] rfl rfl rfl rfl (by decide) (fun v w1 H locs hw_2 hP hD hS => ?_)
  subst hw_2
  refine W.widen (k := 211) (n := 90368) (Nat.le_of_ble_eq_true rfl) (Nat.le_of_ble_eq_true rfl) ?_
  refine W.eq (g2 := F0 m 555 ls [.int (a_ran (xs 1)), .int (a_ran (xs 1))]) rfl ?_
  refine lv_icmp_eq (tgt := 1095) hx hb d_law_555 (by decide) (fun _ => ?_) (fun hc => absurd rfl hc)
  exact law_tail l Z hr hX hbl hS (Nat.le_of_ble_eq_true rfl) (Nat.le_of_ble_eq_true rfl) (lv_sub hl [4, 0] rfl)
set_option maxRecDepth 100000 in
set_option maxHeartbeats 4000000 in
theorem law_13 {p : Program} {e : Env} {s : State} {m : MethodId} {below : List Frame} {meth : Method} {c : Code} (l : Launch) {b : Nat} {xs : Nat → Int32} {G : zG} (Z : zC p s m #[Value.ref b] meth c code 7 "TraceMachinesLaw" G) (hr : meth.sig.returnType = ret) (hX : va_X b 5 xs s s.heap) (hbl : b < s.heap.size) (q : Nat → Nat) {H : Heap} {locs : List Loc} {ls : Array Slot} (hP : va_P G.1 classes (lawW G q) H) (hD : va_D (fun q : Nat => s.heap.size ≤ q) (lawW G q)) (hS : va_S (fun q : Nat => s.heap.size ≤ q) s.heap H locs) (hl : lv_has ls 7 [(4, .int 0), (3, .ref (q 210)), (2, .ref (q 170)), (1, .ref (q 0)), (0, .ref b)]) : W p l e room_1 s m #[Value.ref b] below meth c H locs 211 90368 (lw_Z below #[Value.ref b] s) (F0 m 560 ls []) := by
  obtain ⟨hx, hb, hml, hown, hts, hK, hN, hlocks⟩ := id Z
  have hbA : ¬ (fun q : Nat => s.heap.size ≤ q) b := Nat.not_le.mpr hbl
  have hA : ∀ q : Nat, s.heap.size ≤ q → (fun q : Nat => s.heap.size ≤ q) q := fun _ h => h
  refine lv_aload_n hx hb d_law_560 rfl (lv_at hl 3 rfl) ?_
  refine lv_aload_n hx hb d_law_561 rfl (lv_at hl 4 rfl) ?_
  refine lv_iload hx hb d_law_562 (lv_at hl 0 rfl) ?_
  refine lv_iconst (v := 1) hx hb d_law_564 (by decide) ?_
  refine lv_iadd hx hb d_law_565 ?_
  refine z_topi (y := 1) (by decide +kernel) ?_
  refine va_sld hx hb hX hbl hbA hS (i := 1) (z_in rfl) d_law_566 ?_
  refine z_topi (y := (xs 1)) (congrArg xs (by decide +kernel)) ?_
  refine z_callV (index := 81) (As := [.int (xs 1)]) (rest := []) (wr := [((q 170), .inr (12, [.int 0, .ref (q 171), .ref (q 172), .ref (q 173), .ref (q 174), .int 0, .ref (q 175), .int 0, .int 0, .int 0, .int 0, .ref (q 176), .ref (q 177), .ref (q 178), .int 0, .ref (q 179), .ref (q 180), .ref (q 181), .ref (q 182), .ref (q 183), .ref (q 184), .ref (q 185), .ref (q 186), .ref (q 187), .ref (q 188), .ref (q 189), .ref (q 190), .int 0, .ref (q 191), .ref (q 192), .int 0, .int 0, .int 0, .int 0, .ref (q 193), .ref (q 194), .ref (q 195), .ref (q 196), .ref (q 197), .ref (q 198), .ref (q 199), .int 0, .ref (q 200), .ref (q 201), .int 0, .ref (q 202), .ref (q 203), .ref (q 204), .ref (q 205), .ref (q 206), .int 0, .ref (q 207), .ref (q 208), .ref (q 209)])), ((q 171), .inl (G.2 0, 503, .inl (upd (fun _ => 0) 501 1))), ((q 179), .inl (G.2 0, 2, .inl (fun _ => 0))), ((q 180), .inl (G.2 0, 4820, .inl (fun _ => 0))), ((q 183), .inl (G.2 0, 482, .inl (fun _ => 0))), ((q 185), .inl (G.2 0, 2, .inl (fun _ => 0))), ((q 189), .inl (G.2 0, 2, .inl (fun _ => 0))), ((q 193), .inl (G.2 1, 4096, .inr (.inl (fun _ => 0)))), ((q 195), .inl (G.2 1, 80, .inr (.inl (fun _ => 0)))), ((q 194), .inl (G.2 1, 4096, .inr (.inl (fun _ => 0))))]) Z (t_X_cover l G ((q 0)) ((xs 1)) ((q 1)) ((q 3)) ((q 7)) ((q 11)) ((q 12)) ((q 13)) ((q 22)) ((q 26)) ((q 27)) ((q 36)) ((q 49)) ((q 168)) ((q 52)) ((q 67)) ((q 78)) ((q 80)) ((q 81)) ((q 169)) ((q 4)) ((q 5)) ((q 6)) ((q 116)) ((q 129)) ((q 142)) ((q 155)) ((q 14)) ((q 15)) ((q 16)) ((q 17)) ((q 18)) ((q 19)) ((q 20)) ((q 21)) ((q 130)) ((q 131)) ((q 132)) ((q 133)) ((q 134)) ((q 135)) ((q 136)) ((q 137)) ((q 138)) ((q 139)) ((q 140)) ((q 141)) ((q 23)) ((q 24)) ((q 25)) ((q 79))) hl.1 q759 q760 q761 q1 q762 ⟨by decide, by decide, by show _ = some 1; decide +kernel⟩ ⟨Nat.le_of_ble_eq_true rfl, Nat.le_of_ble_eq_true rfl⟩ ⟨Nat.le_of_ble_eq_true rfl, Nat.le_of_ble_eq_true rfl⟩ rfl (Nat.le_of_ble_eq_true rfl) d_law_567 hP hD hS hA 0 0 rfl rfl rfl [0, 3, 26, 13, 129, 22, 25, 135, 140, 78, 79] [170, 171, 179, 180, 183, 185, 189, 193, 195, 194] rfl rfl rfl rfl (by decide) (fun v w1 H locs hw_1 hP hD hS => ?_)
  subst hw_1
  refine W.widen (k := 211) (n := 90368) (Nat.le_of_ble_eq_true rfl) (Nat.le_of_ble_eq_true rfl) ?_
  refine W.eq (g2 := F0 m 570 ls [.int (a_cover (xs 1))]) rfl ?_
  refine lv_aload_n hx hb d_law_570 rfl (lv_at hl 2 rfl) ?_
  refine lv_aload_n hx hb d_law_571 rfl (lv_at hl 4 rfl) ?_
  refine lv_iload hx hb d_law_572 (lv_at hl 0 rfl) ?_
  refine lv_iconst (v := 1) hx hb d_law_574 (by decide) ?_
  refine lv_iadd hx hb d_law_575 ?_
  refine z_topi (y := 1) (by decide +kernel) ?_
  refine va_sld hx hb hX hbl hbA hS (i := 1) (z_in rfl) d_law_576 ?_
  refine z_topi (y := (xs 1)) (congrArg xs (by decide +kernel)) ?_
  refine z_callV (index := 84) (As := [.int (xs 1)]) (rest := [.int (a_cover (xs 1))]) (wr := []) Z (t_Model_cover l G ((q 170)) ((xs 1)) ((q 171)) ((q 172)) ((q 173)) ((q 174)) ((q 175)) ((q 176)) ((q 177)) ((q 178)) ((q 179)) ((q 180)) ((q 181)) ((q 182)) ((q 183)) ((q 184)) ((q 185)) ((q 186)) ((q 187)) ((q 188)) ((q 189)) ((q 190)) ((q 191)) ((q 192)) ((q 193)) ((q 194)) ((q 195)) ((q 196)) ((q 197)) ((q 198)) ((q 199)) ((q 200)) ((q 201)) ((q 202)) ((q 203)) ((q 204)) ((q 205)) ((q 206)) ((q 207)) ((q 208)) ((q 209))) hl.1 q1479 q1480 q1481 q14 q1482 ⟨by decide, by decide, by show _ = some 1; decide +kernel⟩ ⟨Nat.le_of_ble_eq_true rfl, Nat.le_of_ble_eq_true rfl⟩ ⟨Nat.le_of_ble_eq_true rfl, Nat.le_of_ble_eq_true rfl⟩ rfl (Nat.le_of_ble_eq_true rfl) d_law_577 hP hD hS hA 0 12 rfl rfl rfl [0, 1, 2, 3, 4, 5, 6, 7, 8, 9] [] rfl rfl rfl rfl (by decide) (fun v w1 H locs hw_2 hP hD hS => ?_)
  subst hw_2
  refine W.widen (k := 211) (n := 90368) (Nat.le_of_ble_eq_true rfl) (Nat.le_of_ble_eq_true rfl) ?_
  refine W.eq (g2 := F0 m 580 ls [.int (a_cover (xs 1)), .int (a_cover (xs 1))]) rfl ?_
  refine lv_icmp_eq (tgt := 1095) hx hb d_law_580 (by decide) (fun _ => ?_) (fun hc => absurd rfl hc)
  exact law_tail l Z hr hX hbl hS (Nat.le_of_ble_eq_true rfl) (Nat.le_of_ble_eq_true rfl) (lv_sub hl [4, 0] rfl)
set_option maxRecDepth 100000 in
set_option maxHeartbeats 4000000 in
theorem law_14 {p : Program} {e : Env} {s : State} {m : MethodId} {below : List Frame} {meth : Method} {c : Code} (l : Launch) {b : Nat} {xs : Nat → Int32} {G : zG} (Z : zC p s m #[Value.ref b] meth c code 7 "TraceMachinesLaw" G) (hr : meth.sig.returnType = ret) (hX : va_X b 5 xs s s.heap) (hbl : b < s.heap.size) (q : Nat → Nat) {H : Heap} {locs : List Loc} {ls : Array Slot} (hP : va_P G.1 classes (lawW G q) H) (hD : va_D (fun q : Nat => s.heap.size ≤ q) (lawW G q)) (hS : va_S (fun q : Nat => s.heap.size ≤ q) s.heap H locs) (hl : lv_has ls 7 [(4, .int 0), (3, .ref (q 210)), (2, .ref (q 170)), (1, .ref (q 0)), (0, .ref b)]) : W p l e room_1 s m #[Value.ref b] below meth c H locs 211 90368 (lw_Z below #[Value.ref b] s) (F0 m 585 ls []) := by
  obtain ⟨hx, hb, hml, hown, hts, hK, hN, hlocks⟩ := id Z
  have hbA : ¬ (fun q : Nat => s.heap.size ≤ q) b := Nat.not_le.mpr hbl
  have hA : ∀ q : Nat, s.heap.size ≤ q → (fun q : Nat => s.heap.size ≤ q) q := fun _ h => h
  refine lv_aload_n hx hb d_law_585 rfl (lv_at hl 3 rfl) ?_
  refine lv_aload_n hx hb d_law_586 rfl (lv_at hl 4 rfl) ?_
  refine lv_iload hx hb d_law_587 (lv_at hl 0 rfl) ?_
  refine lv_iconst (v := 1) hx hb d_law_589 (by decide) ?_
  refine lv_iadd hx hb d_law_590 ?_
  refine z_topi (y := 1) (by decide +kernel) ?_
  refine va_sld hx hb hX hbl hbA hS (i := 1) (z_in rfl) d_law_591 ?_
  refine z_topi (y := (xs 1)) (congrArg xs (by decide +kernel)) ?_
  refine z_callV (index := 85) (As := [.int (xs 1)]) (rest := []) (wr := [((q 170), .inr (12, [.int 0, .ref (q 171), .ref (q 172), .ref (q 173), .ref (q 174), .int 0, .ref (q 175), .int 0, .int 0, .int 0, .int 0, .ref (q 176), .ref (q 177), .ref (q 178), .int 0, .ref (q 179), .ref (q 180), .ref (q 181), .ref (q 182), .ref (q 183), .ref (q 184), .ref (q 185), .ref (q 186), .ref (q 187), .ref (q 188), .ref (q 189), .ref (q 190), .int 0, .ref (q 191), .ref (q 192), .int 0, .int 0, .int 0, .int 0, .ref (q 193), .ref (q 194), .ref (q 195), .ref (q 196), .ref (q 197), .ref (q 198), .ref (q 199), .int 0, .ref (q 200), .ref (q 201), .int 0, .ref (q 202), .ref (q 203), .ref (q 204), .ref (q 205), .ref (q 206), .int 0, .ref (q 207), .ref (q 208), .ref (q 209)])), ((q 171), .inl (G.2 0, 503, .inl (upd (fun _ => 0) 501 1)))]) Z (t_X_ways l G ((q 0)) ((xs 1)) ((q 1)) ((q 3)) ((q 7)) ((q 11)) ((q 12)) ((q 13)) ((q 22)) ((q 26)) ((q 27)) ((q 36)) ((q 49)) ((q 168)) ((q 52)) ((q 67)) ((q 78)) ((q 80)) ((q 81)) ((q 169)) ((q 4)) ((q 5)) ((q 6))) hl.1 q796 q797 q798 q1 q799 ⟨by decide, by decide, by show _ = some 1; decide +kernel⟩ ⟨Nat.le_of_ble_eq_true rfl, Nat.le_of_ble_eq_true rfl⟩ ⟨Nat.le_of_ble_eq_true rfl, Nat.le_of_ble_eq_true rfl⟩ rfl (Nat.le_of_ble_eq_true rfl) d_law_592 hP hD hS hA 0 0 rfl rfl rfl [0, 3] [170, 171] rfl rfl rfl rfl (by decide) (fun v w1 H locs hw_1 hP hD hS => ?_)
  subst hw_1
  refine W.widen (k := 211) (n := 90368) (Nat.le_of_ble_eq_true rfl) (Nat.le_of_ble_eq_true rfl) ?_
  refine W.eq (g2 := F0 m 595 ls [.int (a_ways (xs 1))]) rfl ?_
  refine lv_aload_n hx hb d_law_595 rfl (lv_at hl 2 rfl) ?_
  refine lv_aload_n hx hb d_law_596 rfl (lv_at hl 4 rfl) ?_
  refine lv_iload hx hb d_law_597 (lv_at hl 0 rfl) ?_
  refine lv_iconst (v := 1) hx hb d_law_599 (by decide) ?_
  refine lv_iadd hx hb d_law_600 ?_
  refine z_topi (y := 1) (by decide +kernel) ?_
  refine va_sld hx hb hX hbl hbA hS (i := 1) (z_in rfl) d_law_601 ?_
  refine z_topi (y := (xs 1)) (congrArg xs (by decide +kernel)) ?_
  refine z_callV (index := 88) (As := [.int (xs 1)]) (rest := [.int (a_ways (xs 1))]) (wr := []) Z (t_Model_ways l G ((q 170)) ((xs 1)) ((q 171)) ((q 172)) ((q 173)) ((q 174)) ((q 175)) ((q 176)) ((q 177)) ((q 178)) ((q 179)) ((q 180)) ((q 181)) ((q 182)) ((q 183)) ((q 184)) ((q 185)) ((q 186)) ((q 187)) ((q 188)) ((q 189)) ((q 190)) ((q 191)) ((q 192)) ((q 193)) ((q 194)) ((q 195)) ((q 196)) ((q 197)) ((q 198)) ((q 199)) ((q 200)) ((q 201)) ((q 202)) ((q 203)) ((q 204)) ((q 205)) ((q 206)) ((q 207)) ((q 208)) ((q 209))) hl.1 q1494 q1495 q1496 q14 q1497 ⟨by decide, by decide, by show _ = some 1; decide +kernel⟩ ⟨Nat.le_of_ble_eq_true rfl, Nat.le_of_ble_eq_true rfl⟩ ⟨Nat.le_of_ble_eq_true rfl, Nat.le_of_ble_eq_true rfl⟩ rfl (Nat.le_of_ble_eq_true rfl) d_law_602 hP hD hS hA 0 12 rfl rfl rfl [0, 1] [] rfl rfl rfl rfl (by decide) (fun v w1 H locs hw_2 hP hD hS => ?_)
  subst hw_2
  refine W.widen (k := 211) (n := 90368) (Nat.le_of_ble_eq_true rfl) (Nat.le_of_ble_eq_true rfl) ?_
  refine W.eq (g2 := F0 m 605 ls [.int (a_ways (xs 1)), .int (a_ways (xs 1))]) rfl ?_
  refine lv_icmp_eq (tgt := 1095) hx hb d_law_605 (by decide) (fun _ => ?_) (fun hc => absurd rfl hc)
  exact law_tail l Z hr hX hbl hS (Nat.le_of_ble_eq_true rfl) (Nat.le_of_ble_eq_true rfl) (lv_sub hl [4, 0] rfl)
set_option maxRecDepth 100000 in
set_option maxHeartbeats 4000000 in
theorem law_15 {p : Program} {e : Env} {s : State} {m : MethodId} {below : List Frame} {meth : Method} {c : Code} (l : Launch) {b : Nat} {xs : Nat → Int32} {G : zG} (Z : zC p s m #[Value.ref b] meth c code 7 "TraceMachinesLaw" G) (hr : meth.sig.returnType = ret) (hX : va_X b 5 xs s s.heap) (hbl : b < s.heap.size) (q : Nat → Nat) {H : Heap} {locs : List Loc} {ls : Array Slot} (hP : va_P G.1 classes (lawW G q) H) (hD : va_D (fun q : Nat => s.heap.size ≤ q) (lawW G q)) (hS : va_S (fun q : Nat => s.heap.size ≤ q) s.heap H locs) (hl : lv_has ls 7 [(4, .int 0), (3, .ref (q 210)), (2, .ref (q 170)), (1, .ref (q 0)), (0, .ref b)]) : W p l e room_1 s m #[Value.ref b] below meth c H locs 211 90368 (lw_Z below #[Value.ref b] s) (F0 m 610 ls []) := by
  obtain ⟨hx, hb, hml, hown, hts, hK, hN, hlocks⟩ := id Z
  have hbA : ¬ (fun q : Nat => s.heap.size ≤ q) b := Nat.not_le.mpr hbl
  have hA : ∀ q : Nat, s.heap.size ≤ q → (fun q : Nat => s.heap.size ≤ q) q := fun _ h => h
  refine lv_aload_n hx hb d_law_610 rfl (lv_at hl 3 rfl) ?_
  refine lv_aload_n hx hb d_law_611 rfl (lv_at hl 4 rfl) ?_
  refine lv_iload hx hb d_law_612 (lv_at hl 0 rfl) ?_
  refine lv_iconst (v := 1) hx hb d_law_614 (by decide) ?_
  refine lv_iadd hx hb d_law_615 ?_
  refine z_topi (y := 1) (by decide +kernel) ?_
  refine va_sld hx hb hX hbl hbA hS (i := 1) (z_in rfl) d_law_616 ?_
  refine z_topi (y := (xs 1)) (congrArg xs (by decide +kernel)) ?_
  refine z_callV (index := 89) (As := [.int (xs 1)]) (rest := []) (wr := [((q 170), .inr (12, [.int 0, .ref (q 171), .ref (q 172), .ref (q 173), .ref (q 174), .int 0, .ref (q 175), .int 0, .int 0, .int 0, .int 0, .ref (q 176), .ref (q 177), .ref (q 178), .int 0, .ref (q 179), .ref (q 180), .ref (q 181), .ref (q 182), .ref (q 183), .ref (q 184), .ref (q 185), .ref (q 186), .ref (q 187), .ref (q 188), .ref (q 189), .ref (q 190), .int 0, .ref (q 191), .ref (q 192), .int 0, .int 0, .int 0, .int 0, .ref (q 193), .ref (q 194), .ref (q 195), .ref (q 196), .ref (q 197), .ref (q 198), .ref (q 199), .int 0, .ref (q 200), .ref (q 201), .int 0, .ref (q 202), .ref (q 203), .ref (q 204), .ref (q 205), .ref (q 206), .int 0, .ref (q 207), .ref (q 208), .ref (q 209)])), ((q 171), .inl (G.2 0, 503, .inl (upd (fun _ => 0) 501 1))), ((q 179), .inl (G.2 0, 2, .inl (fun _ => 0))), ((q 180), .inl (G.2 0, 4820, .inl (fun _ => 0))), ((q 183), .inl (G.2 0, 482, .inl (fun _ => 0))), ((q 185), .inl (G.2 0, 2, .inl (fun _ => 0))), ((q 189), .inl (G.2 0, 2, .inl (fun _ => 0))), ((q 191), .inl (G.2 1, 4, .inr (.inl (fun _ => 0)))), ((q 199), .inl (G.2 0, 1001, .inl (fun _ => 0))), ((q 198), .inl (G.2 1, 4004, .inr (.inl (fun _ => 0))))]) Z (t_X_words l G ((q 0)) ((xs 1)) ((q 1)) ((q 3)) ((q 7)) ((q 11)) ((q 12)) ((q 13)) ((q 22)) ((q 26)) ((q 27)) ((q 36)) ((q 49)) ((q 168)) ((q 52)) ((q 67)) ((q 78)) ((q 80)) ((q 81)) ((q 169)) ((q 4)) ((q 5)) ((q 6)) ((q 116)) ((q 129)) ((q 142)) ((q 155)) ((q 14)) ((q 15)) ((q 16)) ((q 17)) ((q 18)) ((q 19)) ((q 20)) ((q 21)) ((q 130)) ((q 131)) ((q 132)) ((q 133)) ((q 134)) ((q 135)) ((q 136)) ((q 137)) ((q 138)) ((q 139)) ((q 140)) ((q 141)) ((q 23)) ((q 24)) ((q 25)) ((q 53)) ((q 54)) ((q 57)) ((q 60)) ((q 63)) ((q 64)) ((q 65)) ((q 66))) hl.1 q815 q816 q817 q1 q818 ⟨by decide, by decide, by show _ = some 1; decide +kernel⟩ ⟨Nat.le_of_ble_eq_true rfl, Nat.le_of_ble_eq_true rfl⟩ ⟨Nat.le_of_ble_eq_true rfl, Nat.le_of_ble_eq_true rfl⟩ rfl (Nat.le_of_ble_eq_true rfl) d_law_617 hP hD hS hA 0 0 rfl rfl rfl [0, 3, 26, 13, 129, 22, 25, 135, 140, 52] [170, 171, 179, 180, 183, 185, 189, 191, 199, 198] rfl rfl rfl rfl (by decide) (fun v w1 H locs hw_1 hP hD hS => ?_)
  subst hw_1
  refine W.widen (k := 211) (n := 90368) (Nat.le_of_ble_eq_true rfl) (Nat.le_of_ble_eq_true rfl) ?_
  refine W.eq (g2 := F0 m 620 ls [.int (a_words (xs 1))]) rfl ?_
  refine lv_aload_n hx hb d_law_620 rfl (lv_at hl 2 rfl) ?_
  refine lv_aload_n hx hb d_law_621 rfl (lv_at hl 4 rfl) ?_
  refine lv_iload hx hb d_law_622 (lv_at hl 0 rfl) ?_
  refine lv_iconst (v := 1) hx hb d_law_624 (by decide) ?_
  refine lv_iadd hx hb d_law_625 ?_
  refine z_topi (y := 1) (by decide +kernel) ?_
  refine va_sld hx hb hX hbl hbA hS (i := 1) (z_in rfl) d_law_626 ?_
  refine z_topi (y := (xs 1)) (congrArg xs (by decide +kernel)) ?_
  refine z_callV (index := 92) (As := [.int (xs 1)]) (rest := [.int (a_words (xs 1))]) (wr := []) Z (t_Model_words l G ((q 170)) ((xs 1)) ((q 171)) ((q 172)) ((q 173)) ((q 174)) ((q 175)) ((q 176)) ((q 177)) ((q 178)) ((q 179)) ((q 180)) ((q 181)) ((q 182)) ((q 183)) ((q 184)) ((q 185)) ((q 186)) ((q 187)) ((q 188)) ((q 189)) ((q 190)) ((q 191)) ((q 192)) ((q 193)) ((q 194)) ((q 195)) ((q 196)) ((q 197)) ((q 198)) ((q 199)) ((q 200)) ((q 201)) ((q 202)) ((q 203)) ((q 204)) ((q 205)) ((q 206)) ((q 207)) ((q 208)) ((q 209))) hl.1 q1504 q1505 q1506 q14 q1507 ⟨by decide, by decide, by show _ = some 1; decide +kernel⟩ ⟨Nat.le_of_ble_eq_true rfl, Nat.le_of_ble_eq_true rfl⟩ ⟨Nat.le_of_ble_eq_true rfl, Nat.le_of_ble_eq_true rfl⟩ rfl (Nat.le_of_ble_eq_true rfl) d_law_627 hP hD hS hA 0 12 rfl rfl rfl [0, 1, 2, 3, 4, 5, 6, 7, 8, 9] [] rfl rfl rfl rfl (by decide) (fun v w1 H locs hw_2 hP hD hS => ?_)
  subst hw_2
  refine W.widen (k := 211) (n := 90368) (Nat.le_of_ble_eq_true rfl) (Nat.le_of_ble_eq_true rfl) ?_
  refine W.eq (g2 := F0 m 630 ls [.int (a_words (xs 1)), .int (a_words (xs 1))]) rfl ?_
  refine lv_icmp_eq (tgt := 1095) hx hb d_law_630 (by decide) (fun _ => ?_) (fun hc => absurd rfl hc)
  exact law_tail l Z hr hX hbl hS (Nat.le_of_ble_eq_true rfl) (Nat.le_of_ble_eq_true rfl) (lv_sub hl [4, 0] rfl)
set_option maxRecDepth 100000 in
set_option maxHeartbeats 4000000 in
theorem law_16 {p : Program} {e : Env} {s : State} {m : MethodId} {below : List Frame} {meth : Method} {c : Code} (l : Launch) {b : Nat} {xs : Nat → Int32} {G : zG} (Z : zC p s m #[Value.ref b] meth c code 7 "TraceMachinesLaw" G) (hr : meth.sig.returnType = ret) (hX : va_X b 5 xs s s.heap) (hbl : b < s.heap.size) (q : Nat → Nat) {H : Heap} {locs : List Loc} {ls : Array Slot} (hP : va_P G.1 classes (lawW G q) H) (hD : va_D (fun q : Nat => s.heap.size ≤ q) (lawW G q)) (hS : va_S (fun q : Nat => s.heap.size ≤ q) s.heap H locs) (hl : lv_has ls 7 [(4, .int 0), (3, .ref (q 210)), (2, .ref (q 170)), (1, .ref (q 0)), (0, .ref b)]) : W p l e room_1 s m #[Value.ref b] below meth c H locs 211 90368 (lw_Z below #[Value.ref b] s) (F0 m 635 ls []) := by
  obtain ⟨hx, hb, hml, hown, hts, hK, hN, hlocks⟩ := id Z
  have hbA : ¬ (fun q : Nat => s.heap.size ≤ q) b := Nat.not_le.mpr hbl
  have hA : ∀ q : Nat, s.heap.size ≤ q → (fun q : Nat => s.heap.size ≤ q) q := fun _ h => h
  refine lv_aload_n hx hb d_law_635 rfl (lv_at hl 3 rfl) ?_
  refine lv_aload_n hx hb d_law_636 rfl (lv_at hl 4 rfl) ?_
  refine lv_iload hx hb d_law_637 (lv_at hl 0 rfl) ?_
  refine lv_iconst (v := 1) hx hb d_law_639 (by decide) ?_
  refine lv_iadd hx hb d_law_640 ?_
  refine z_topi (y := 1) (by decide +kernel) ?_
  refine va_sld hx hb hX hbl hbA hS (i := 1) (z_in rfl) d_law_641 ?_
  refine z_topi (y := (xs 1)) (congrArg xs (by decide +kernel)) ?_
  refine lv_aload_n hx hb d_law_642 rfl (lv_at hl 4 rfl) ?_
  refine lv_iload hx hb d_law_643 (lv_at hl 0 rfl) ?_
  refine lv_iconst (v := 2) hx hb d_law_645 (by decide) ?_
  refine lv_iadd hx hb d_law_646 ?_
  refine z_topi (y := 2) (by decide +kernel) ?_
  refine va_sld hx hb hX hbl hbA hS (i := 2) (z_in rfl) d_law_647 ?_
  refine z_topi (y := (xs 2)) (congrArg xs (by decide +kernel)) ?_
  refine lv_aload_n hx hb d_law_648 rfl (lv_at hl 4 rfl) ?_
  refine lv_iload hx hb d_law_649 (lv_at hl 0 rfl) ?_
  refine lv_iconst (v := 3) hx hb d_law_651 (by decide) ?_
  refine lv_iadd hx hb d_law_652 ?_
  refine z_topi (y := 3) (by decide +kernel) ?_
  refine va_sld hx hb hX hbl hbA hS (i := 3) (z_in rfl) d_law_653 ?_
  refine z_topi (y := (xs 3)) (congrArg xs (by decide +kernel)) ?_
  refine z_callV (index := 93) (As := [.int (xs 1), .int (xs 2), .int (xs 3)]) (rest := []) (wr := [((q 170), .inr (12, [.int 0, .ref (q 171), .ref (q 172), .ref (q 173), .ref (q 174), .int 0, .ref (q 175), .int 0, .int 0, .int 0, .int 0, .ref (q 176), .ref (q 177), .ref (q 178), .int 0, .ref (q 179), .ref (q 180), .ref (q 181), .ref (q 182), .ref (q 183), .ref (q 184), .ref (q 185), .ref (q 186), .ref (q 187), .ref (q 188), .ref (q 189), .ref (q 190), .int 0, .ref (q 191), .ref (q 192), .int 0, .int 0, .int 0, .int 0, .ref (q 193), .ref (q 194), .ref (q 195), .ref (q 196), .ref (q 197), .ref (q 198), .ref (q 199), .int 0, .ref (q 200), .ref (q 201), .int 0, .ref (q 202), .ref (q 203), .ref (q 204), .ref (q 205), .ref (q 206), .int 0, .ref (q 207), .ref (q 208), .ref (q 209)])), ((q 179), .inl (G.2 0, 2, .inl (fun _ => 0))), ((q 180), .inl (G.2 0, 4820, .inl (fun _ => 0))), ((q 183), .inl (G.2 0, 482, .inl (fun _ => 0))), ((q 171), .inl (G.2 0, 503, .inl (upd (fun _ => 0) 501 1))), ((q 185), .inl (G.2 0, 2, .inl (fun _ => 0))), ((q 189), .inl (G.2 0, 2, .inl (fun _ => 0))), ((q 191), .inl (G.2 1, 4, .inr (.inl (fun _ => 0)))), ((q 206), .inl (G.2 1, 8, .inr (.inl (fun _ => 0)))), ((q 202), .inl (G.2 1, 3208, .inr (.inl (fun _ => 0)))), ((q 203), .inl (G.2 0, 401, .inl (fun _ => 0))), ((q 204), .inl (G.2 0, 401, .inl (fun _ => 0))), ((q 205), .inl (G.2 0, 401, .inl (fun _ => 0))), ((q 192), .inl (G.2 1, 4, .inr (.inl (fun _ => 0))))]) Z (t_X_apart l G ((q 0)) ((xs 1)) ((xs 2)) ((xs 3)) ((q 1)) ((q 3)) ((q 7)) ((q 11)) ((q 12)) ((q 13)) ((q 22)) ((q 26)) ((q 27)) ((q 36)) ((q 49)) ((q 168)) ((q 52)) ((q 67)) ((q 78)) ((q 80)) ((q 81)) ((q 169)) ((q 68)) ((q 69)) ((q 72)) ((q 75)) ((q 76)) ((q 77)) ((q 116)) ((q 129)) ((q 142)) ((q 155)) ((q 14)) ((q 15)) ((q 16)) ((q 17)) ((q 18)) ((q 19)) ((q 20)) ((q 21)) ((q 4)) ((q 5)) ((q 6)) ((q 117)) ((q 118)) ((q 119)) ((q 120)) ((q 121)) ((q 122)) ((q 123)) ((q 124)) ((q 125)) ((q 126)) ((q 127)) ((q 128)) ((q 23)) ((q 24)) ((q 25)) ((q 73)) ((q 74)) ((q 70)) ((q 71)) ((q 130)) ((q 131)) ((q 132)) ((q 133)) ((q 134)) ((q 135)) ((q 136)) ((q 137)) ((q 138)) ((q 139)) ((q 140)) ((q 141)) ((q 143)) ((q 144)) ((q 145)) ((q 146)) ((q 147)) ((q 148)) ((q 149)) ((q 150)) ((q 151)) ((q 152)) ((q 153)) ((q 154)) ((q 156)) ((q 157)) ((q 158)) ((q 159)) ((q 160)) ((q 161)) ((q 162)) ((q 163)) ((q 164)) ((q 165)) ((q 166)) ((q 167))) hl.1 q866 q867 q868 q1 q869 ⟨by decide, by decide, by show _ = some 3; decide +kernel⟩ ⟨Nat.le_of_ble_eq_true rfl, Nat.le_of_ble_eq_true rfl⟩ ⟨Nat.le_of_ble_eq_true rfl, Nat.le_of_ble_eq_true rfl⟩ rfl (Nat.le_of_ble_eq_true rfl) d_law_654 hP hD hS hA 0 0 rfl rfl rfl [0, 67, 26, 13, 3, 116, 22, 25, 122, 127, 72, 73, 69, 71, 70, 77, 129, 135, 140, 142, 148, 153, 155, 161, 166] [170, 179, 180, 183, 171, 185, 189, 191, 206, 202, 203, 204, 205, 192] rfl rfl rfl rfl (by decide) (fun v w1 H locs hw_1 hP hD hS => ?_)
  subst hw_1
  refine W.widen (k := 211) (n := 90368) (Nat.le_of_ble_eq_true rfl) (Nat.le_of_ble_eq_true rfl) ?_
  refine W.eq (g2 := F0 m 657 ls [.int (a_apart (xs 1) (xs 2) (xs 3))]) rfl ?_
  refine lv_aload_n hx hb d_law_657 rfl (lv_at hl 2 rfl) ?_
  refine lv_aload_n hx hb d_law_658 rfl (lv_at hl 4 rfl) ?_
  refine lv_iload hx hb d_law_659 (lv_at hl 0 rfl) ?_
  refine lv_iconst (v := 1) hx hb d_law_661 (by decide) ?_
  refine lv_iadd hx hb d_law_662 ?_
  refine z_topi (y := 1) (by decide +kernel) ?_
  refine va_sld hx hb hX hbl hbA hS (i := 1) (z_in rfl) d_law_663 ?_
  refine z_topi (y := (xs 1)) (congrArg xs (by decide +kernel)) ?_
  refine lv_aload_n hx hb d_law_664 rfl (lv_at hl 4 rfl) ?_
  refine lv_iload hx hb d_law_665 (lv_at hl 0 rfl) ?_
  refine lv_iconst (v := 2) hx hb d_law_667 (by decide) ?_
  refine lv_iadd hx hb d_law_668 ?_
  refine z_topi (y := 2) (by decide +kernel) ?_
  refine va_sld hx hb hX hbl hbA hS (i := 2) (z_in rfl) d_law_669 ?_
  refine z_topi (y := (xs 2)) (congrArg xs (by decide +kernel)) ?_
  refine lv_aload_n hx hb d_law_670 rfl (lv_at hl 4 rfl) ?_
  refine lv_iload hx hb d_law_671 (lv_at hl 0 rfl) ?_
  refine lv_iconst (v := 3) hx hb d_law_673 (by decide) ?_
  refine lv_iadd hx hb d_law_674 ?_
  refine z_topi (y := 3) (by decide +kernel) ?_
  refine va_sld hx hb hX hbl hbA hS (i := 3) (z_in rfl) d_law_675 ?_
  refine z_topi (y := (xs 3)) (congrArg xs (by decide +kernel)) ?_
  refine z_callV (index := 96) (As := [.int (xs 1), .int (xs 2), .int (xs 3)]) (rest := [.int (a_apart (xs 1) (xs 2) (xs 3))]) (wr := []) Z (t_Model_apart l G ((q 170)) ((xs 1)) ((xs 2)) ((xs 3)) ((q 171)) ((q 172)) ((q 173)) ((q 174)) ((q 175)) ((q 176)) ((q 177)) ((q 178)) ((q 179)) ((q 180)) ((q 181)) ((q 182)) ((q 183)) ((q 184)) ((q 185)) ((q 186)) ((q 187)) ((q 188)) ((q 189)) ((q 190)) ((q 191)) ((q 192)) ((q 193)) ((q 194)) ((q 195)) ((q 196)) ((q 197)) ((q 198)) ((q 199)) ((q 200)) ((q 201)) ((q 202)) ((q 203)) ((q 204)) ((q 205)) ((q 206)) ((q 207)) ((q 208)) ((q 209))) hl.1 q1520 q1521 q1522 q14 q1523 ⟨by decide, by decide, by show _ = some 3; decide +kernel⟩ ⟨Nat.le_of_ble_eq_true rfl, Nat.le_of_ble_eq_true rfl⟩ ⟨Nat.le_of_ble_eq_true rfl, Nat.le_of_ble_eq_true rfl⟩ rfl (Nat.le_of_ble_eq_true rfl) d_law_676 hP hD hS hA 0 12 rfl rfl rfl [0, 1, 2, 3, 4, 5, 6, 7, 8, 9, 10, 11, 12, 13] [] rfl rfl rfl rfl (by decide) (fun v w1 H locs hw_2 hP hD hS => ?_)
  subst hw_2
  refine W.widen (k := 211) (n := 90368) (Nat.le_of_ble_eq_true rfl) (Nat.le_of_ble_eq_true rfl) ?_
  refine W.eq (g2 := F0 m 679 ls [.int (a_apart (xs 1) (xs 2) (xs 3)), .int (a_apart (xs 1) (xs 2) (xs 3))]) rfl ?_
  refine lv_icmp_eq (tgt := 1095) hx hb d_law_679 (by decide) (fun _ => ?_) (fun hc => absurd rfl hc)
  exact law_tail l Z hr hX hbl hS (Nat.le_of_ble_eq_true rfl) (Nat.le_of_ble_eq_true rfl) (lv_sub hl [4, 0] rfl)
set_option maxRecDepth 100000 in
set_option maxHeartbeats 4000000 in
theorem law_17 {p : Program} {e : Env} {s : State} {m : MethodId} {below : List Frame} {meth : Method} {c : Code} (l : Launch) {b : Nat} {xs : Nat → Int32} {G : zG} (Z : zC p s m #[Value.ref b] meth c code 7 "TraceMachinesLaw" G) (hr : meth.sig.returnType = ret) (hX : va_X b 5 xs s s.heap) (hbl : b < s.heap.size) (q : Nat → Nat) {H : Heap} {locs : List Loc} {ls : Array Slot} (hP : va_P G.1 classes (lawW G q) H) (hD : va_D (fun q : Nat => s.heap.size ≤ q) (lawW G q)) (hS : va_S (fun q : Nat => s.heap.size ≤ q) s.heap H locs) (hl : lv_has ls 7 [(4, .int 0), (3, .ref (q 210)), (2, .ref (q 170)), (1, .ref (q 0)), (0, .ref b)]) : W p l e room_1 s m #[Value.ref b] below meth c H locs 211 90368 (lw_Z below #[Value.ref b] s) (F0 m 684 ls []) := by
  obtain ⟨hx, hb, hml, hown, hts, hK, hN, hlocks⟩ := id Z
  have hbA : ¬ (fun q : Nat => s.heap.size ≤ q) b := Nat.not_le.mpr hbl
  have hA : ∀ q : Nat, s.heap.size ≤ q → (fun q : Nat => s.heap.size ≤ q) q := fun _ h => h
  refine lv_aload_n hx hb d_law_684 rfl (lv_at hl 3 rfl) ?_
  refine lv_aload_n hx hb d_law_685 rfl (lv_at hl 4 rfl) ?_
  refine lv_iload hx hb d_law_686 (lv_at hl 0 rfl) ?_
  refine lv_iconst (v := 1) hx hb d_law_688 (by decide) ?_
  refine lv_iadd hx hb d_law_689 ?_
  refine z_topi (y := 1) (by decide +kernel) ?_
  refine va_sld hx hb hX hbl hbA hS (i := 1) (z_in rfl) d_law_690 ?_
  refine z_topi (y := (xs 1)) (congrArg xs (by decide +kernel)) ?_
  refine lv_aload_n hx hb d_law_691 rfl (lv_at hl 4 rfl) ?_
  refine lv_iload hx hb d_law_692 (lv_at hl 0 rfl) ?_
  refine lv_iconst (v := 2) hx hb d_law_694 (by decide) ?_
  refine lv_iadd hx hb d_law_695 ?_
  refine z_topi (y := 2) (by decide +kernel) ?_
  refine va_sld hx hb hX hbl hbA hS (i := 2) (z_in rfl) d_law_696 ?_
  refine z_topi (y := (xs 2)) (congrArg xs (by decide +kernel)) ?_
  refine z_callV (index := 97) (As := [.int (xs 1), .int (xs 2)]) (rest := []) (wr := [((q 170), .inr (12, [.int 0, .ref (q 171), .ref (q 172), .ref (q 173), .ref (q 174), .int 0, .ref (q 175), .int 0, .int 0, .int 0, .int 0, .ref (q 176), .ref (q 177), .ref (q 178), .int 0, .ref (q 179), .ref (q 180), .ref (q 181), .ref (q 182), .ref (q 183), .ref (q 184), .ref (q 185), .ref (q 186), .ref (q 187), .ref (q 188), .ref (q 189), .ref (q 190), .int 0, .ref (q 191), .ref (q 192), .int 0, .int 0, .int 0, .int 0, .ref (q 193), .ref (q 194), .ref (q 195), .ref (q 196), .ref (q 197), .ref (q 198), .ref (q 199), .int 0, .ref (q 200), .ref (q 201), .int 0, .ref (q 202), .ref (q 203), .ref (q 204), .ref (q 205), .ref (q 206), .int 0, .ref (q 207), .ref (q 208), .ref (q 209)])), ((q 171), .inl (G.2 0, 503, .inl (upd (fun _ => 0) 501 1)))]) Z (t_X_walk l G ((q 0)) ((xs 1)) ((xs 2)) ((q 1)) ((q 3)) ((q 7)) ((q 11)) ((q 12)) ((q 13)) ((q 22)) ((q 26)) ((q 27)) ((q 36)) ((q 49)) ((q 168)) ((q 52)) ((q 67)) ((q 78)) ((q 80)) ((q 81)) ((q 169)) ((q 4)) ((q 5)) ((q 6))) hl.1 q900 q901 q902 q1 q903 ⟨by decide, by decide, by show _ = some 2; decide +kernel⟩ ⟨Nat.le_of_ble_eq_true rfl, Nat.le_of_ble_eq_true rfl⟩ ⟨Nat.le_of_ble_eq_true rfl, Nat.le_of_ble_eq_true rfl⟩ rfl (Nat.le_of_ble_eq_true rfl) d_law_697 hP hD hS hA 0 0 rfl rfl rfl [0, 3] [170, 171] rfl rfl rfl rfl (by decide) (fun v w1 H locs hw_1 hP hD hS => ?_)
  subst hw_1
  refine W.widen (k := 211) (n := 90368) (Nat.le_of_ble_eq_true rfl) (Nat.le_of_ble_eq_true rfl) ?_
  refine W.eq (g2 := F0 m 700 ls [.int (a_walk (xs 1) (xs 2))]) rfl ?_
  refine lv_aload_n hx hb d_law_700 rfl (lv_at hl 2 rfl) ?_
  refine lv_aload_n hx hb d_law_701 rfl (lv_at hl 4 rfl) ?_
  refine lv_iload hx hb d_law_702 (lv_at hl 0 rfl) ?_
  refine lv_iconst (v := 1) hx hb d_law_704 (by decide) ?_
  refine lv_iadd hx hb d_law_705 ?_
  refine z_topi (y := 1) (by decide +kernel) ?_
  refine va_sld hx hb hX hbl hbA hS (i := 1) (z_in rfl) d_law_706 ?_
  refine z_topi (y := (xs 1)) (congrArg xs (by decide +kernel)) ?_
  refine lv_aload_n hx hb d_law_707 rfl (lv_at hl 4 rfl) ?_
  refine lv_iload hx hb d_law_708 (lv_at hl 0 rfl) ?_
  refine lv_iconst (v := 2) hx hb d_law_710 (by decide) ?_
  refine lv_iadd hx hb d_law_711 ?_
  refine z_topi (y := 2) (by decide +kernel) ?_
  refine va_sld hx hb hX hbl hbA hS (i := 2) (z_in rfl) d_law_712 ?_
  refine z_topi (y := (xs 2)) (congrArg xs (by decide +kernel)) ?_
  refine z_callV (index := 100) (As := [.int (xs 1), .int (xs 2)]) (rest := [.int (a_walk (xs 1) (xs 2))]) (wr := []) Z (t_Model_walk l G ((q 170)) ((xs 1)) ((xs 2)) ((q 171)) ((q 172)) ((q 173)) ((q 174)) ((q 175)) ((q 176)) ((q 177)) ((q 178)) ((q 179)) ((q 180)) ((q 181)) ((q 182)) ((q 183)) ((q 184)) ((q 185)) ((q 186)) ((q 187)) ((q 188)) ((q 189)) ((q 190)) ((q 191)) ((q 192)) ((q 193)) ((q 194)) ((q 195)) ((q 196)) ((q 197)) ((q 198)) ((q 199)) ((q 200)) ((q 201)) ((q 202)) ((q 203)) ((q 204)) ((q 205)) ((q 206)) ((q 207)) ((q 208)) ((q 209))) hl.1 q1541 q1542 q1543 q14 q1544 ⟨by decide, by decide, by show _ = some 2; decide +kernel⟩ ⟨Nat.le_of_ble_eq_true rfl, Nat.le_of_ble_eq_true rfl⟩ ⟨Nat.le_of_ble_eq_true rfl, Nat.le_of_ble_eq_true rfl⟩ rfl (Nat.le_of_ble_eq_true rfl) d_law_713 hP hD hS hA 0 12 rfl rfl rfl [0, 1] [] rfl rfl rfl rfl (by decide) (fun v w1 H locs hw_2 hP hD hS => ?_)
  subst hw_2
  refine W.widen (k := 211) (n := 90368) (Nat.le_of_ble_eq_true rfl) (Nat.le_of_ble_eq_true rfl) ?_
  refine W.eq (g2 := F0 m 716 ls [.int (a_walk (xs 1) (xs 2)), .int (a_walk (xs 1) (xs 2))]) rfl ?_
  refine lv_icmp_eq (tgt := 1095) hx hb d_law_716 (by decide) (fun _ => ?_) (fun hc => absurd rfl hc)
  exact law_tail l Z hr hX hbl hS (Nat.le_of_ble_eq_true rfl) (Nat.le_of_ble_eq_true rfl) (lv_sub hl [4, 0] rfl)
set_option maxRecDepth 100000 in
set_option maxHeartbeats 4000000 in
theorem law_18 {p : Program} {e : Env} {s : State} {m : MethodId} {below : List Frame} {meth : Method} {c : Code} (l : Launch) {b : Nat} {xs : Nat → Int32} {G : zG} (Z : zC p s m #[Value.ref b] meth c code 7 "TraceMachinesLaw" G) (hr : meth.sig.returnType = ret) (hX : va_X b 5 xs s s.heap) (hbl : b < s.heap.size) (q : Nat → Nat) {H : Heap} {locs : List Loc} {ls : Array Slot} (hP : va_P G.1 classes (lawW G q) H) (hD : va_D (fun q : Nat => s.heap.size ≤ q) (lawW G q)) (hS : va_S (fun q : Nat => s.heap.size ≤ q) s.heap H locs) (hl : lv_has ls 7 [(4, .int 0), (3, .ref (q 210)), (2, .ref (q 170)), (1, .ref (q 0)), (0, .ref b)]) : W p l e room_1 s m #[Value.ref b] below meth c H locs 211 90368 (lw_Z below #[Value.ref b] s) (F0 m 721 ls []) := by
  obtain ⟨hx, hb, hml, hown, hts, hK, hN, hlocks⟩ := id Z
  have hbA : ¬ (fun q : Nat => s.heap.size ≤ q) b := Nat.not_le.mpr hbl
  have hA : ∀ q : Nat, s.heap.size ≤ q → (fun q : Nat => s.heap.size ≤ q) q := fun _ h => h
  refine lv_aload_n hx hb d_law_721 rfl (lv_at hl 3 rfl) ?_
  refine lv_aload_n hx hb d_law_722 rfl (lv_at hl 4 rfl) ?_
  refine lv_iload hx hb d_law_723 (lv_at hl 0 rfl) ?_
  refine lv_iconst (v := 1) hx hb d_law_725 (by decide) ?_
  refine lv_iadd hx hb d_law_726 ?_
  refine z_topi (y := 1) (by decide +kernel) ?_
  refine va_sld hx hb hX hbl hbA hS (i := 1) (z_in rfl) d_law_727 ?_
  refine z_topi (y := (xs 1)) (congrArg xs (by decide +kernel)) ?_
  refine lv_aload_n hx hb d_law_728 rfl (lv_at hl 4 rfl) ?_
  refine lv_iload hx hb d_law_729 (lv_at hl 0 rfl) ?_
  refine lv_iconst (v := 2) hx hb d_law_731 (by decide) ?_
  refine lv_iadd hx hb d_law_732 ?_
  refine z_topi (y := 2) (by decide +kernel) ?_
  refine va_sld hx hb hX hbl hbA hS (i := 2) (z_in rfl) d_law_733 ?_
  refine z_topi (y := (xs 2)) (congrArg xs (by decide +kernel)) ?_
  refine lv_aload_n hx hb d_law_734 rfl (lv_at hl 4 rfl) ?_
  refine lv_iload hx hb d_law_735 (lv_at hl 0 rfl) ?_
  refine lv_iconst (v := 3) hx hb d_law_737 (by decide) ?_
  refine lv_iadd hx hb d_law_738 ?_
  refine z_topi (y := 3) (by decide +kernel) ?_
  refine va_sld hx hb hX hbl hbA hS (i := 3) (z_in rfl) d_law_739 ?_
  refine z_topi (y := (xs 3)) (congrArg xs (by decide +kernel)) ?_
  refine lv_aload_n hx hb d_law_740 rfl (lv_at hl 4 rfl) ?_
  refine lv_iload hx hb d_law_741 (lv_at hl 0 rfl) ?_
  refine lv_iconst (v := 4) hx hb d_law_743 (by decide) ?_
  refine lv_iadd hx hb d_law_744 ?_
  refine z_topi (y := 4) (by decide +kernel) ?_
  refine va_sld hx hb hX hbl hbA hS (i := 4) (z_in rfl) d_law_745 ?_
  refine z_topi (y := (xs 4)) (congrArg xs (by decide +kernel)) ?_
  refine z_callV (index := 101) (As := [.int (xs 1), .int (xs 2), .int (xs 3), .int (xs 4)]) (rest := []) (wr := [((q 170), .inr (12, [.int 0, .ref (q 171), .ref (q 172), .ref (q 173), .ref (q 174), .int 0, .ref (q 175), .int 0, .int 0, .int 0, .int 0, .ref (q 176), .ref (q 177), .ref (q 178), .int 0, .ref (q 179), .ref (q 180), .ref (q 181), .ref (q 182), .ref (q 183), .ref (q 184), .ref (q 185), .ref (q 186), .ref (q 187), .ref (q 188), .ref (q 189), .ref (q 190), .int 0, .ref (q 191), .ref (q 192), .int 0, .int 0, .int 0, .int 0, .ref (q 193), .ref (q 194), .ref (q 195), .ref (q 196), .ref (q 197), .ref (q 198), .ref (q 199), .int 0, .ref (q 200), .ref (q 201), .int 0, .ref (q 202), .ref (q 203), .ref (q 204), .ref (q 205), .ref (q 206), .int 0, .ref (q 207), .ref (q 208), .ref (q 209)])), ((q 171), .inl (G.2 0, 503, .inl (upd (fun _ => 0) 501 1)))]) Z (t_X_rule l G ((q 0)) ((xs 1)) ((xs 2)) ((xs 3)) ((xs 4)) ((q 1)) ((q 3)) ((q 7)) ((q 11)) ((q 12)) ((q 13)) ((q 22)) ((q 26)) ((q 27)) ((q 36)) ((q 49)) ((q 168)) ((q 52)) ((q 67)) ((q 78)) ((q 80)) ((q 81)) ((q 169)) ((q 4)) ((q 5)) ((q 6))) hl.1 q911 q912 q913 q1 q914 ⟨by decide, by decide, by show _ = some 4; decide +kernel⟩ ⟨Nat.le_of_ble_eq_true rfl, Nat.le_of_ble_eq_true rfl⟩ ⟨Nat.le_of_ble_eq_true rfl, Nat.le_of_ble_eq_true rfl⟩ rfl (Nat.le_of_ble_eq_true rfl) d_law_746 hP hD hS hA 0 0 rfl rfl rfl [0, 80, 3] [170, 171] rfl rfl rfl rfl (by decide) (fun v w1 H locs hw_1 hP hD hS => ?_)
  subst hw_1
  refine W.widen (k := 211) (n := 90368) (Nat.le_of_ble_eq_true rfl) (Nat.le_of_ble_eq_true rfl) ?_
  refine W.eq (g2 := F0 m 749 ls [.int (a_rule (xs 1) (xs 2) (xs 3) (xs 4))]) rfl ?_
  refine lv_aload_n hx hb d_law_749 rfl (lv_at hl 2 rfl) ?_
  refine lv_aload_n hx hb d_law_750 rfl (lv_at hl 4 rfl) ?_
  refine lv_iload hx hb d_law_751 (lv_at hl 0 rfl) ?_
  refine lv_iconst (v := 1) hx hb d_law_753 (by decide) ?_
  refine lv_iadd hx hb d_law_754 ?_
  refine z_topi (y := 1) (by decide +kernel) ?_
  refine va_sld hx hb hX hbl hbA hS (i := 1) (z_in rfl) d_law_755 ?_
  refine z_topi (y := (xs 1)) (congrArg xs (by decide +kernel)) ?_
  refine lv_aload_n hx hb d_law_756 rfl (lv_at hl 4 rfl) ?_
  refine lv_iload hx hb d_law_757 (lv_at hl 0 rfl) ?_
  refine lv_iconst (v := 2) hx hb d_law_759 (by decide) ?_
  refine lv_iadd hx hb d_law_760 ?_
  refine z_topi (y := 2) (by decide +kernel) ?_
  refine va_sld hx hb hX hbl hbA hS (i := 2) (z_in rfl) d_law_761 ?_
  refine z_topi (y := (xs 2)) (congrArg xs (by decide +kernel)) ?_
  refine lv_aload_n hx hb d_law_762 rfl (lv_at hl 4 rfl) ?_
  refine lv_iload hx hb d_law_763 (lv_at hl 0 rfl) ?_
  refine lv_iconst (v := 3) hx hb d_law_765 (by decide) ?_
  refine lv_iadd hx hb d_law_766 ?_
  refine z_topi (y := 3) (by decide +kernel) ?_
  refine va_sld hx hb hX hbl hbA hS (i := 3) (z_in rfl) d_law_767 ?_
  refine z_topi (y := (xs 3)) (congrArg xs (by decide +kernel)) ?_
  refine lv_aload_n hx hb d_law_768 rfl (lv_at hl 4 rfl) ?_
  refine lv_iload hx hb d_law_769 (lv_at hl 0 rfl) ?_
  refine lv_iconst (v := 4) hx hb d_law_771 (by decide) ?_
  refine lv_iadd hx hb d_law_772 ?_
  refine z_topi (y := 4) (by decide +kernel) ?_
  refine va_sld hx hb hX hbl hbA hS (i := 4) (z_in rfl) d_law_773 ?_
  refine z_topi (y := (xs 4)) (congrArg xs (by decide +kernel)) ?_
  refine z_callV (index := 105) (As := [.int (xs 1), .int (xs 2), .int (xs 3), .int (xs 4)]) (rest := [.int (a_rule (xs 1) (xs 2) (xs 3) (xs 4))]) (wr := []) Z (t_Model_rule l G ((q 170)) ((xs 1)) ((xs 2)) ((xs 3)) ((xs 4)) ((q 171)) ((q 172)) ((q 173)) ((q 174)) ((q 175)) ((q 176)) ((q 177)) ((q 178)) ((q 179)) ((q 180)) ((q 181)) ((q 182)) ((q 183)) ((q 184)) ((q 185)) ((q 186)) ((q 187)) ((q 188)) ((q 189)) ((q 190)) ((q 191)) ((q 192)) ((q 193)) ((q 194)) ((q 195)) ((q 196)) ((q 197)) ((q 198)) ((q 199)) ((q 200)) ((q 201)) ((q 202)) ((q 203)) ((q 204)) ((q 205)) ((q 206)) ((q 207)) ((q 208)) ((q 209))) hl.1 q1549 q1550 q1551 q14 q1552 ⟨by decide, by decide, by show _ = some 4; decide +kernel⟩ ⟨Nat.le_of_ble_eq_true rfl, Nat.le_of_ble_eq_true rfl⟩ ⟨Nat.le_of_ble_eq_true rfl, Nat.le_of_ble_eq_true rfl⟩ rfl (Nat.le_of_ble_eq_true rfl) d_law_774 hP hD hS hA 0 12 rfl rfl rfl [0, 1] [] rfl rfl rfl rfl (by decide) (fun v w1 H locs hw_2 hP hD hS => ?_)
  subst hw_2
  refine W.widen (k := 211) (n := 90368) (Nat.le_of_ble_eq_true rfl) (Nat.le_of_ble_eq_true rfl) ?_
  refine W.eq (g2 := F0 m 777 ls [.int (a_rule (xs 1) (xs 2) (xs 3) (xs 4)), .int (a_rule (xs 1) (xs 2) (xs 3) (xs 4))]) rfl ?_
  refine lv_icmp_eq (tgt := 1095) hx hb d_law_777 (by decide) (fun _ => ?_) (fun hc => absurd rfl hc)
  exact law_tail l Z hr hX hbl hS (Nat.le_of_ble_eq_true rfl) (Nat.le_of_ble_eq_true rfl) (lv_sub hl [4, 0] rfl)
set_option maxRecDepth 100000 in
set_option maxHeartbeats 4000000 in
theorem law_19 {p : Program} {e : Env} {s : State} {m : MethodId} {below : List Frame} {meth : Method} {c : Code} (l : Launch) {b : Nat} {xs : Nat → Int32} {G : zG} (Z : zC p s m #[Value.ref b] meth c code 7 "TraceMachinesLaw" G) (hr : meth.sig.returnType = ret) (hX : va_X b 5 xs s s.heap) (hbl : b < s.heap.size) (q : Nat → Nat) {H : Heap} {locs : List Loc} {ls : Array Slot} (hP : va_P G.1 classes (lawW G q) H) (hD : va_D (fun q : Nat => s.heap.size ≤ q) (lawW G q)) (hS : va_S (fun q : Nat => s.heap.size ≤ q) s.heap H locs) (hl : lv_has ls 7 [(4, .int 0), (3, .ref (q 210)), (2, .ref (q 170)), (1, .ref (q 0)), (0, .ref b)]) : W p l e room_1 s m #[Value.ref b] below meth c H locs 211 90368 (lw_Z below #[Value.ref b] s) (F0 m 782 ls []) := by
  obtain ⟨hx, hb, hml, hown, hts, hK, hN, hlocks⟩ := id Z
  have hbA : ¬ (fun q : Nat => s.heap.size ≤ q) b := Nat.not_le.mpr hbl
  have hA : ∀ q : Nat, s.heap.size ≤ q → (fun q : Nat => s.heap.size ≤ q) q := fun _ h => h
  refine lv_aload_n hx hb d_law_782 rfl (lv_at hl 3 rfl) ?_
  refine lv_aload_n hx hb d_law_783 rfl (lv_at hl 4 rfl) ?_
  refine lv_iload hx hb d_law_784 (lv_at hl 0 rfl) ?_
  refine lv_iconst (v := 1) hx hb d_law_786 (by decide) ?_
  refine lv_iadd hx hb d_law_787 ?_
  refine z_topi (y := 1) (by decide +kernel) ?_
  refine va_sld hx hb hX hbl hbA hS (i := 1) (z_in rfl) d_law_788 ?_
  refine z_topi (y := (xs 1)) (congrArg xs (by decide +kernel)) ?_
  refine lv_aload_n hx hb d_law_789 rfl (lv_at hl 4 rfl) ?_
  refine lv_iload hx hb d_law_790 (lv_at hl 0 rfl) ?_
  refine lv_iconst (v := 2) hx hb d_law_792 (by decide) ?_
  refine lv_iadd hx hb d_law_793 ?_
  refine z_topi (y := 2) (by decide +kernel) ?_
  refine va_sld hx hb hX hbl hbA hS (i := 2) (z_in rfl) d_law_794 ?_
  refine z_topi (y := (xs 2)) (congrArg xs (by decide +kernel)) ?_
  refine lv_aload_n hx hb d_law_795 rfl (lv_at hl 4 rfl) ?_
  refine lv_iload hx hb d_law_796 (lv_at hl 0 rfl) ?_
  refine lv_iconst (v := 3) hx hb d_law_798 (by decide) ?_
  refine lv_iadd hx hb d_law_799 ?_
  refine z_topi (y := 3) (by decide +kernel) ?_
  refine va_sld hx hb hX hbl hbA hS (i := 3) (z_in rfl) d_law_800 ?_
  refine z_topi (y := (xs 3)) (congrArg xs (by decide +kernel)) ?_
  refine z_callV (index := 106) (As := [.int (xs 1), .int (xs 2), .int (xs 3)]) (rest := []) (wr := [((q 170), .inr (12, [.int 0, .ref (q 171), .ref (q 172), .ref (q 173), .ref (q 174), .int 0, .ref (q 175), .int 0, .int 0, .int 0, .int 0, .ref (q 176), .ref (q 177), .ref (q 178), .int 0, .ref (q 179), .ref (q 180), .ref (q 181), .ref (q 182), .ref (q 183), .ref (q 184), .ref (q 185), .ref (q 186), .ref (q 187), .ref (q 188), .ref (q 189), .ref (q 190), .int 0, .ref (q 191), .ref (q 192), .int 0, .int 0, .int 0, .int 0, .ref (q 193), .ref (q 194), .ref (q 195), .ref (q 196), .ref (q 197), .ref (q 198), .ref (q 199), .int 0, .ref (q 200), .ref (q 201), .int 0, .ref (q 202), .ref (q 203), .ref (q 204), .ref (q 205), .ref (q 206), .int 0, .ref (q 207), .ref (q 208), .ref (q 209)])), ((q 171), .inl (G.2 0, 503, .inl (upd (fun _ => 0) 501 1)))]) Z (t_X_rules l G ((q 0)) ((xs 1)) ((xs 2)) ((xs 3)) ((q 1)) ((q 3)) ((q 7)) ((q 11)) ((q 12)) ((q 13)) ((q 22)) ((q 26)) ((q 27)) ((q 36)) ((q 49)) ((q 168)) ((q 52)) ((q 67)) ((q 78)) ((q 80)) ((q 81)) ((q 169)) ((q 4)) ((q 5)) ((q 6))) hl.1 q948 q949 q950 q1 q951 ⟨by decide, by decide, by show _ = some 3; decide +kernel⟩ ⟨Nat.le_of_ble_eq_true rfl, Nat.le_of_ble_eq_true rfl⟩ ⟨Nat.le_of_ble_eq_true rfl, Nat.le_of_ble_eq_true rfl⟩ rfl (Nat.le_of_ble_eq_true rfl) d_law_801 hP hD hS hA 0 0 rfl rfl rfl [0, 80, 3] [170, 171] rfl rfl rfl rfl (by decide) (fun v w1 H locs hw_1 hP hD hS => ?_)
  subst hw_1
  refine W.widen (k := 211) (n := 90368) (Nat.le_of_ble_eq_true rfl) (Nat.le_of_ble_eq_true rfl) ?_
  refine W.eq (g2 := F0 m 804 ls [.int (a_rules (xs 1) (xs 2) (xs 3))]) rfl ?_
  refine lv_aload_n hx hb d_law_804 rfl (lv_at hl 2 rfl) ?_
  refine lv_aload_n hx hb d_law_805 rfl (lv_at hl 4 rfl) ?_
  refine lv_iload hx hb d_law_806 (lv_at hl 0 rfl) ?_
  refine lv_iconst (v := 1) hx hb d_law_808 (by decide) ?_
  refine lv_iadd hx hb d_law_809 ?_
  refine z_topi (y := 1) (by decide +kernel) ?_
  refine va_sld hx hb hX hbl hbA hS (i := 1) (z_in rfl) d_law_810 ?_
  refine z_topi (y := (xs 1)) (congrArg xs (by decide +kernel)) ?_
  refine lv_aload_n hx hb d_law_811 rfl (lv_at hl 4 rfl) ?_
  refine lv_iload hx hb d_law_812 (lv_at hl 0 rfl) ?_
  refine lv_iconst (v := 2) hx hb d_law_814 (by decide) ?_
  refine lv_iadd hx hb d_law_815 ?_
  refine z_topi (y := 2) (by decide +kernel) ?_
  refine va_sld hx hb hX hbl hbA hS (i := 2) (z_in rfl) d_law_816 ?_
  refine z_topi (y := (xs 2)) (congrArg xs (by decide +kernel)) ?_
  refine lv_aload_n hx hb d_law_817 rfl (lv_at hl 4 rfl) ?_
  refine lv_iload hx hb d_law_818 (lv_at hl 0 rfl) ?_
  refine lv_iconst (v := 3) hx hb d_law_820 (by decide) ?_
  refine lv_iadd hx hb d_law_821 ?_
  refine z_topi (y := 3) (by decide +kernel) ?_
  refine va_sld hx hb hX hbl hbA hS (i := 3) (z_in rfl) d_law_822 ?_
  refine z_topi (y := (xs 3)) (congrArg xs (by decide +kernel)) ?_
  refine z_callV (index := 109) (As := [.int (xs 1), .int (xs 2), .int (xs 3)]) (rest := [.int (a_rules (xs 1) (xs 2) (xs 3))]) (wr := []) Z (t_Model_rules l G ((q 170)) ((xs 1)) ((xs 2)) ((xs 3)) ((q 171)) ((q 172)) ((q 173)) ((q 174)) ((q 175)) ((q 176)) ((q 177)) ((q 178)) ((q 179)) ((q 180)) ((q 181)) ((q 182)) ((q 183)) ((q 184)) ((q 185)) ((q 186)) ((q 187)) ((q 188)) ((q 189)) ((q 190)) ((q 191)) ((q 192)) ((q 193)) ((q 194)) ((q 195)) ((q 196)) ((q 197)) ((q 198)) ((q 199)) ((q 200)) ((q 201)) ((q 202)) ((q 203)) ((q 204)) ((q 205)) ((q 206)) ((q 207)) ((q 208)) ((q 209))) hl.1 q1593 q1594 q1595 q14 q1596 ⟨by decide, by decide, by show _ = some 3; decide +kernel⟩ ⟨Nat.le_of_ble_eq_true rfl, Nat.le_of_ble_eq_true rfl⟩ ⟨Nat.le_of_ble_eq_true rfl, Nat.le_of_ble_eq_true rfl⟩ rfl (Nat.le_of_ble_eq_true rfl) d_law_823 hP hD hS hA 0 12 rfl rfl rfl [0, 1] [] rfl rfl rfl rfl (by decide) (fun v w1 H locs hw_2 hP hD hS => ?_)
  subst hw_2
  refine W.widen (k := 211) (n := 90368) (Nat.le_of_ble_eq_true rfl) (Nat.le_of_ble_eq_true rfl) ?_
  refine W.eq (g2 := F0 m 826 ls [.int (a_rules (xs 1) (xs 2) (xs 3)), .int (a_rules (xs 1) (xs 2) (xs 3))]) rfl ?_
  refine lv_icmp_eq (tgt := 1095) hx hb d_law_826 (by decide) (fun _ => ?_) (fun hc => absurd rfl hc)
  exact law_tail l Z hr hX hbl hS (Nat.le_of_ble_eq_true rfl) (Nat.le_of_ble_eq_true rfl) (lv_sub hl [4, 0] rfl)
set_option maxRecDepth 100000 in
set_option maxHeartbeats 4000000 in
theorem law_20 {p : Program} {e : Env} {s : State} {m : MethodId} {below : List Frame} {meth : Method} {c : Code} (l : Launch) {b : Nat} {xs : Nat → Int32} {G : zG} (Z : zC p s m #[Value.ref b] meth c code 7 "TraceMachinesLaw" G) (hr : meth.sig.returnType = ret) (hX : va_X b 5 xs s s.heap) (hbl : b < s.heap.size) (q : Nat → Nat) {H : Heap} {locs : List Loc} {ls : Array Slot} (hP : va_P G.1 classes (lawW G q) H) (hD : va_D (fun q : Nat => s.heap.size ≤ q) (lawW G q)) (hS : va_S (fun q : Nat => s.heap.size ≤ q) s.heap H locs) (hl : lv_has ls 7 [(4, .int 0), (3, .ref (q 210)), (2, .ref (q 170)), (1, .ref (q 0)), (0, .ref b)]) : W p l e room_1 s m #[Value.ref b] below meth c H locs 211 90368 (lw_Z below #[Value.ref b] s) (F0 m 831 ls []) := by
  obtain ⟨hx, hb, hml, hown, hts, hK, hN, hlocks⟩ := id Z
  have hbA : ¬ (fun q : Nat => s.heap.size ≤ q) b := Nat.not_le.mpr hbl
  have hA : ∀ q : Nat, s.heap.size ≤ q → (fun q : Nat => s.heap.size ≤ q) q := fun _ h => h
  refine lv_aload_n hx hb d_law_831 rfl (lv_at hl 3 rfl) ?_
  refine lv_aload_n hx hb d_law_832 rfl (lv_at hl 4 rfl) ?_
  refine lv_iload hx hb d_law_833 (lv_at hl 0 rfl) ?_
  refine lv_iconst (v := 1) hx hb d_law_835 (by decide) ?_
  refine lv_iadd hx hb d_law_836 ?_
  refine z_topi (y := 1) (by decide +kernel) ?_
  refine va_sld hx hb hX hbl hbA hS (i := 1) (z_in rfl) d_law_837 ?_
  refine z_topi (y := (xs 1)) (congrArg xs (by decide +kernel)) ?_
  refine lv_aload_n hx hb d_law_838 rfl (lv_at hl 4 rfl) ?_
  refine lv_iload hx hb d_law_839 (lv_at hl 0 rfl) ?_
  refine lv_iconst (v := 2) hx hb d_law_841 (by decide) ?_
  refine lv_iadd hx hb d_law_842 ?_
  refine z_topi (y := 2) (by decide +kernel) ?_
  refine va_sld hx hb hX hbl hbA hS (i := 2) (z_in rfl) d_law_843 ?_
  refine z_topi (y := (xs 2)) (congrArg xs (by decide +kernel)) ?_
  refine z_callV (index := 110) (As := [.int (xs 1), .int (xs 2)]) (rest := []) (wr := [((q 170), .inr (12, [.int 0, .ref (q 171), .ref (q 172), .ref (q 173), .ref (q 174), .int 0, .ref (q 175), .int 0, .int 0, .int 0, .int 0, .ref (q 176), .ref (q 177), .ref (q 178), .int 0, .ref (q 179), .ref (q 180), .ref (q 181), .ref (q 182), .ref (q 183), .ref (q 184), .ref (q 185), .ref (q 186), .ref (q 187), .ref (q 188), .ref (q 189), .ref (q 190), .int 0, .ref (q 191), .ref (q 192), .int 0, .int 0, .int 0, .int 0, .ref (q 193), .ref (q 194), .ref (q 195), .ref (q 196), .ref (q 197), .ref (q 198), .ref (q 199), .int 0, .ref (q 200), .ref (q 201), .int 0, .ref (q 202), .ref (q 203), .ref (q 204), .ref (q 205), .ref (q 206), .int 0, .ref (q 207), .ref (q 208), .ref (q 209)])), ((q 171), .inl (G.2 0, 503, .inl (upd (fun _ => 0) 501 1)))]) Z (t_X_odd l G ((q 0)) ((xs 1)) ((xs 2)) ((q 1)) ((q 3)) ((q 7)) ((q 11)) ((q 12)) ((q 13)) ((q 22)) ((q 26)) ((q 27)) ((q 36)) ((q 49)) ((q 168)) ((q 52)) ((q 67)) ((q 78)) ((q 80)) ((q 81)) ((q 169)) ((q 4)) ((q 5)) ((q 6))) hl.1 q957 q958 q959 q1 q960 ⟨by decide, by decide, by show _ = some 2; decide +kernel⟩ ⟨Nat.le_of_ble_eq_true rfl, Nat.le_of_ble_eq_true rfl⟩ ⟨Nat.le_of_ble_eq_true rfl, Nat.le_of_ble_eq_true rfl⟩ rfl (Nat.le_of_ble_eq_true rfl) d_law_844 hP hD hS hA 0 0 rfl rfl rfl [0, 3] [170, 171] rfl rfl rfl rfl (by decide) (fun v w1 H locs hw_1 hP hD hS => ?_)
  subst hw_1
  refine W.widen (k := 211) (n := 90368) (Nat.le_of_ble_eq_true rfl) (Nat.le_of_ble_eq_true rfl) ?_
  refine W.eq (g2 := F0 m 847 ls [.int (a_odd (xs 1) (xs 2))]) rfl ?_
  refine lv_aload_n hx hb d_law_847 rfl (lv_at hl 2 rfl) ?_
  refine lv_aload_n hx hb d_law_848 rfl (lv_at hl 4 rfl) ?_
  refine lv_iload hx hb d_law_849 (lv_at hl 0 rfl) ?_
  refine lv_iconst (v := 1) hx hb d_law_851 (by decide) ?_
  refine lv_iadd hx hb d_law_852 ?_
  refine z_topi (y := 1) (by decide +kernel) ?_
  refine va_sld hx hb hX hbl hbA hS (i := 1) (z_in rfl) d_law_853 ?_
  refine z_topi (y := (xs 1)) (congrArg xs (by decide +kernel)) ?_
  refine lv_aload_n hx hb d_law_854 rfl (lv_at hl 4 rfl) ?_
  refine lv_iload hx hb d_law_855 (lv_at hl 0 rfl) ?_
  refine lv_iconst (v := 2) hx hb d_law_857 (by decide) ?_
  refine lv_iadd hx hb d_law_858 ?_
  refine z_topi (y := 2) (by decide +kernel) ?_
  refine va_sld hx hb hX hbl hbA hS (i := 2) (z_in rfl) d_law_859 ?_
  refine z_topi (y := (xs 2)) (congrArg xs (by decide +kernel)) ?_
  refine z_callV (index := 113) (As := [.int (xs 1), .int (xs 2)]) (rest := [.int (a_odd (xs 1) (xs 2))]) (wr := []) Z (t_Model_odd l G ((q 170)) ((xs 1)) ((xs 2)) ((q 171)) ((q 172)) ((q 173)) ((q 174)) ((q 175)) ((q 176)) ((q 177)) ((q 178)) ((q 179)) ((q 180)) ((q 181)) ((q 182)) ((q 183)) ((q 184)) ((q 185)) ((q 186)) ((q 187)) ((q 188)) ((q 189)) ((q 190)) ((q 191)) ((q 192)) ((q 193)) ((q 194)) ((q 195)) ((q 196)) ((q 197)) ((q 198)) ((q 199)) ((q 200)) ((q 201)) ((q 202)) ((q 203)) ((q 204)) ((q 205)) ((q 206)) ((q 207)) ((q 208)) ((q 209))) hl.1 q1598 q1599 q1600 q14 q1601 ⟨by decide, by decide, by show _ = some 2; decide +kernel⟩ ⟨Nat.le_of_ble_eq_true rfl, Nat.le_of_ble_eq_true rfl⟩ ⟨Nat.le_of_ble_eq_true rfl, Nat.le_of_ble_eq_true rfl⟩ rfl (Nat.le_of_ble_eq_true rfl) d_law_860 hP hD hS hA 0 12 rfl rfl rfl [0, 1] [] rfl rfl rfl rfl (by decide) (fun v w1 H locs hw_2 hP hD hS => ?_)
  subst hw_2
  refine W.widen (k := 211) (n := 90368) (Nat.le_of_ble_eq_true rfl) (Nat.le_of_ble_eq_true rfl) ?_
  refine W.eq (g2 := F0 m 863 ls [.int (a_odd (xs 1) (xs 2)), .int (a_odd (xs 1) (xs 2))]) rfl ?_
  refine lv_icmp_eq (tgt := 1095) hx hb d_law_863 (by decide) (fun _ => ?_) (fun hc => absurd rfl hc)
  exact law_tail l Z hr hX hbl hS (Nat.le_of_ble_eq_true rfl) (Nat.le_of_ble_eq_true rfl) (lv_sub hl [4, 0] rfl)
set_option maxRecDepth 100000 in
set_option maxHeartbeats 4000000 in
theorem law_21 {p : Program} {e : Env} {s : State} {m : MethodId} {below : List Frame} {meth : Method} {c : Code} (l : Launch) {b : Nat} {xs : Nat → Int32} {G : zG} (Z : zC p s m #[Value.ref b] meth c code 7 "TraceMachinesLaw" G) (hr : meth.sig.returnType = ret) (hX : va_X b 5 xs s s.heap) (hbl : b < s.heap.size) (q : Nat → Nat) {H : Heap} {locs : List Loc} {ls : Array Slot} (hP : va_P G.1 classes (lawW G q) H) (hD : va_D (fun q : Nat => s.heap.size ≤ q) (lawW G q)) (hS : va_S (fun q : Nat => s.heap.size ≤ q) s.heap H locs) (hl : lv_has ls 7 [(4, .int 0), (3, .ref (q 210)), (2, .ref (q 170)), (1, .ref (q 0)), (0, .ref b)]) : W p l e room_1 s m #[Value.ref b] below meth c H locs 211 90368 (lw_Z below #[Value.ref b] s) (F0 m 868 ls []) := by
  obtain ⟨hx, hb, hml, hown, hts, hK, hN, hlocks⟩ := id Z
  have hbA : ¬ (fun q : Nat => s.heap.size ≤ q) b := Nat.not_le.mpr hbl
  have hA : ∀ q : Nat, s.heap.size ≤ q → (fun q : Nat => s.heap.size ≤ q) q := fun _ h => h
  refine lv_aload_n hx hb d_law_868 rfl (lv_at hl 3 rfl) ?_
  refine lv_aload_n hx hb d_law_869 rfl (lv_at hl 4 rfl) ?_
  refine lv_iload hx hb d_law_870 (lv_at hl 0 rfl) ?_
  refine lv_iconst (v := 1) hx hb d_law_872 (by decide) ?_
  refine lv_iadd hx hb d_law_873 ?_
  refine z_topi (y := 1) (by decide +kernel) ?_
  refine va_sld hx hb hX hbl hbA hS (i := 1) (z_in rfl) d_law_874 ?_
  refine z_topi (y := (xs 1)) (congrArg xs (by decide +kernel)) ?_
  refine z_callV (index := 114) (As := [.int (xs 1)]) (rest := []) (wr := [((q 170), .inr (12, [.int 0, .ref (q 171), .ref (q 172), .ref (q 173), .ref (q 174), .int 0, .ref (q 175), .int 0, .int 0, .int 0, .int 0, .ref (q 176), .ref (q 177), .ref (q 178), .int 0, .ref (q 179), .ref (q 180), .ref (q 181), .ref (q 182), .ref (q 183), .ref (q 184), .ref (q 185), .ref (q 186), .ref (q 187), .ref (q 188), .ref (q 189), .ref (q 190), .int 0, .ref (q 191), .ref (q 192), .int 0, .int 0, .int 0, .int 0, .ref (q 193), .ref (q 194), .ref (q 195), .ref (q 196), .ref (q 197), .ref (q 198), .ref (q 199), .int 0, .ref (q 200), .ref (q 201), .int 0, .ref (q 202), .ref (q 203), .ref (q 204), .ref (q 205), .ref (q 206), .int 0, .ref (q 207), .ref (q 208), .ref (q 209)])), ((q 171), .inl (G.2 0, 503, .inl (upd (fun _ => 0) 501 1))), ((q 179), .inl (G.2 0, 2, .inl (fun _ => 0))), ((q 180), .inl (G.2 0, 4820, .inl (fun _ => 0))), ((q 183), .inl (G.2 0, 482, .inl (fun _ => 0))), ((q 185), .inl (G.2 0, 2, .inl (fun _ => 0))), ((q 189), .inl (G.2 0, 2, .inl (fun _ => 0)))]) Z (t_X_oddest l G ((q 0)) ((xs 1)) ((q 1)) ((q 3)) ((q 7)) ((q 11)) ((q 12)) ((q 13)) ((q 22)) ((q 26)) ((q 27)) ((q 36)) ((q 49)) ((q 168)) ((q 52)) ((q 67)) ((q 78)) ((q 80)) ((q 81)) ((q 169)) ((q 4)) ((q 5)) ((q 6))) hl.1 q978 q979 q980 q1 q981 ⟨by decide, by decide, by show _ = some 1; decide +kernel⟩ ⟨Nat.le_of_ble_eq_true rfl, Nat.le_of_ble_eq_true rfl⟩ ⟨Nat.le_of_ble_eq_true rfl, Nat.le_of_ble_eq_true rfl⟩ rfl (Nat.le_of_ble_eq_true rfl) d_law_875 hP hD hS hA 0 0 rfl rfl rfl [0, 3] [170, 171, 179, 180, 183, 185, 189] rfl rfl rfl rfl (by decide) (fun v w1 H locs hw_1 hP hD hS => ?_)
  subst hw_1
  refine W.widen (k := 211) (n := 90368) (Nat.le_of_ble_eq_true rfl) (Nat.le_of_ble_eq_true rfl) ?_
  refine W.eq (g2 := F0 m 878 ls [.int (a_oddest (xs 1))]) rfl ?_
  refine lv_aload_n hx hb d_law_878 rfl (lv_at hl 2 rfl) ?_
  refine lv_aload_n hx hb d_law_879 rfl (lv_at hl 4 rfl) ?_
  refine lv_iload hx hb d_law_880 (lv_at hl 0 rfl) ?_
  refine lv_iconst (v := 1) hx hb d_law_882 (by decide) ?_
  refine lv_iadd hx hb d_law_883 ?_
  refine z_topi (y := 1) (by decide +kernel) ?_
  refine va_sld hx hb hX hbl hbA hS (i := 1) (z_in rfl) d_law_884 ?_
  refine z_topi (y := (xs 1)) (congrArg xs (by decide +kernel)) ?_
  refine z_callV (index := 117) (As := [.int (xs 1)]) (rest := [.int (a_oddest (xs 1))]) (wr := []) Z (t_Model_oddest l G ((q 170)) ((xs 1)) ((q 171)) ((q 172)) ((q 173)) ((q 174)) ((q 175)) ((q 176)) ((q 177)) ((q 178)) ((q 179)) ((q 180)) ((q 181)) ((q 182)) ((q 183)) ((q 184)) ((q 185)) ((q 186)) ((q 187)) ((q 188)) ((q 189)) ((q 190)) ((q 191)) ((q 192)) ((q 193)) ((q 194)) ((q 195)) ((q 196)) ((q 197)) ((q 198)) ((q 199)) ((q 200)) ((q 201)) ((q 202)) ((q 203)) ((q 204)) ((q 205)) ((q 206)) ((q 207)) ((q 208)) ((q 209))) hl.1 q1615 q1616 q1617 q14 q1618 ⟨by decide, by decide, by show _ = some 1; decide +kernel⟩ ⟨Nat.le_of_ble_eq_true rfl, Nat.le_of_ble_eq_true rfl⟩ ⟨Nat.le_of_ble_eq_true rfl, Nat.le_of_ble_eq_true rfl⟩ rfl (Nat.le_of_ble_eq_true rfl) d_law_885 hP hD hS hA 0 12 rfl rfl rfl [0, 1, 2, 3, 4, 5, 6] [] rfl rfl rfl rfl (by decide) (fun v w1 H locs hw_2 hP hD hS => ?_)
  subst hw_2
  refine W.widen (k := 211) (n := 90368) (Nat.le_of_ble_eq_true rfl) (Nat.le_of_ble_eq_true rfl) ?_
  refine W.eq (g2 := F0 m 888 ls [.int (a_oddest (xs 1)), .int (a_oddest (xs 1))]) rfl ?_
  refine lv_icmp_eq (tgt := 1095) hx hb d_law_888 (by decide) (fun _ => ?_) (fun hc => absurd rfl hc)
  exact law_tail l Z hr hX hbl hS (Nat.le_of_ble_eq_true rfl) (Nat.le_of_ble_eq_true rfl) (lv_sub hl [4, 0] rfl)
set_option maxRecDepth 100000 in
set_option maxHeartbeats 4000000 in
theorem law_22 {p : Program} {e : Env} {s : State} {m : MethodId} {below : List Frame} {meth : Method} {c : Code} (l : Launch) {b : Nat} {xs : Nat → Int32} {G : zG} (Z : zC p s m #[Value.ref b] meth c code 7 "TraceMachinesLaw" G) (hr : meth.sig.returnType = ret) (hX : va_X b 5 xs s s.heap) (hbl : b < s.heap.size) (q : Nat → Nat) {H : Heap} {locs : List Loc} {ls : Array Slot} (hP : va_P G.1 classes (lawW G q) H) (hD : va_D (fun q : Nat => s.heap.size ≤ q) (lawW G q)) (hS : va_S (fun q : Nat => s.heap.size ≤ q) s.heap H locs) (hl : lv_has ls 7 [(4, .int 0), (3, .ref (q 210)), (2, .ref (q 170)), (1, .ref (q 0)), (0, .ref b)]) : W p l e room_1 s m #[Value.ref b] below meth c H locs 211 90368 (lw_Z below #[Value.ref b] s) (F0 m 893 ls []) := by
  obtain ⟨hx, hb, hml, hown, hts, hK, hN, hlocks⟩ := id Z
  have hbA : ¬ (fun q : Nat => s.heap.size ≤ q) b := Nat.not_le.mpr hbl
  have hA : ∀ q : Nat, s.heap.size ≤ q → (fun q : Nat => s.heap.size ≤ q) q := fun _ h => h
  refine lv_aload_n hx hb d_law_893 rfl (lv_at hl 3 rfl) ?_
  refine lv_aload_n hx hb d_law_894 rfl (lv_at hl 4 rfl) ?_
  refine lv_iload hx hb d_law_895 (lv_at hl 0 rfl) ?_
  refine lv_iconst (v := 1) hx hb d_law_897 (by decide) ?_
  refine lv_iadd hx hb d_law_898 ?_
  refine z_topi (y := 1) (by decide +kernel) ?_
  refine va_sld hx hb hX hbl hbA hS (i := 1) (z_in rfl) d_law_899 ?_
  refine z_topi (y := (xs 1)) (congrArg xs (by decide +kernel)) ?_
  refine lv_aload_n hx hb d_law_900 rfl (lv_at hl 4 rfl) ?_
  refine lv_iload hx hb d_law_901 (lv_at hl 0 rfl) ?_
  refine lv_iconst (v := 2) hx hb d_law_903 (by decide) ?_
  refine lv_iadd hx hb d_law_904 ?_
  refine z_topi (y := 2) (by decide +kernel) ?_
  refine va_sld hx hb hX hbl hbA hS (i := 2) (z_in rfl) d_law_905 ?_
  refine z_topi (y := (xs 2)) (congrArg xs (by decide +kernel)) ?_
  refine lv_aload_n hx hb d_law_906 rfl (lv_at hl 4 rfl) ?_
  refine lv_iload hx hb d_law_907 (lv_at hl 0 rfl) ?_
  refine lv_iconst (v := 3) hx hb d_law_909 (by decide) ?_
  refine lv_iadd hx hb d_law_910 ?_
  refine z_topi (y := 3) (by decide +kernel) ?_
  refine va_sld hx hb hX hbl hbA hS (i := 3) (z_in rfl) d_law_911 ?_
  refine z_topi (y := (xs 3)) (congrArg xs (by decide +kernel)) ?_
  refine lv_if_eq (tgt := 919) hx hb d_law_912 (by decide) (fun hc_1 => ?_) (fun hc_1 => ?_)
  · have _h9 := trivial -- at hc_1
    refine lv_iconst (v := 0) hx hb d_law_919 (by decide) ?_
    refine z_callV (index := 118) (As := [.int (xs 1), .int (xs 2), .int 0]) (rest := []) (wr := [((q 170), .inr (12, [.int 0, .ref (q 171), .ref (q 172), .ref (q 173), .ref (q 174), .int 0, .ref (q 175), .int 0, .int 0, .int 0, .int 0, .ref (q 176), .ref (q 177), .ref (q 178), .int 0, .ref (q 179), .ref (q 180), .ref (q 181), .ref (q 182), .ref (q 183), .ref (q 184), .ref (q 185), .ref (q 186), .ref (q 187), .ref (q 188), .ref (q 189), .ref (q 190), .int 0, .ref (q 191), .ref (q 192), .int 0, .int 0, .int 0, .int 0, .ref (q 193), .ref (q 194), .ref (q 195), .ref (q 196), .ref (q 197), .ref (q 198), .ref (q 199), .int 0, .ref (q 200), .ref (q 201), .int 0, .ref (q 202), .ref (q 203), .ref (q 204), .ref (q 205), .ref (q 206), .int 0, .ref (q 207), .ref (q 208), .ref (q 209)])), ((q 171), .inl (G.2 0, 503, .inl (upd (fun _ => 0) 501 1)))]) Z (t_X_held l G ((q 0)) ((xs 1)) ((xs 2)) (0) ((q 1)) ((q 3)) ((q 7)) ((q 11)) ((q 12)) ((q 13)) ((q 22)) ((q 26)) ((q 27)) ((q 36)) ((q 49)) ((q 168)) ((q 52)) ((q 67)) ((q 78)) ((q 80)) ((q 81)) ((q 169)) ((q 4)) ((q 5)) ((q 6))) hl.1 q982 q983 q984 q1 q985 ⟨by decide, by decide, by show _ = some 3; decide +kernel⟩ ⟨Nat.le_of_ble_eq_true rfl, Nat.le_of_ble_eq_true rfl⟩ ⟨Nat.le_of_ble_eq_true rfl, Nat.le_of_ble_eq_true rfl⟩ rfl (Nat.le_of_ble_eq_true rfl) d_law_920 hP hD hS hA 0 0 rfl rfl rfl [0, 3] [170, 171] rfl rfl rfl rfl (by decide) (fun v w1 H locs hw_2 hP hD hS => ?_)
    subst hw_2
    refine W.widen (k := 211) (n := 90368) (Nat.le_of_ble_eq_true rfl) (Nat.le_of_ble_eq_true rfl) ?_
    refine W.eq (g2 := F0 m 923 ls [.int (a_held (xs 1) (xs 2) 0)]) rfl ?_
    refine lv_aload_n hx hb d_law_923 rfl (lv_at hl 2 rfl) ?_
    refine lv_aload_n hx hb d_law_924 rfl (lv_at hl 4 rfl) ?_
    refine lv_iload hx hb d_law_925 (lv_at hl 0 rfl) ?_
    refine lv_iconst (v := 1) hx hb d_law_927 (by decide) ?_
    refine lv_iadd hx hb d_law_928 ?_
    refine z_topi (y := 1) (by decide +kernel) ?_
    refine va_sld hx hb hX hbl hbA hS (i := 1) (z_in rfl) d_law_929 ?_
    refine z_topi (y := (xs 1)) (congrArg xs (by decide +kernel)) ?_
    refine lv_aload_n hx hb d_law_930 rfl (lv_at hl 4 rfl) ?_
    refine lv_iload hx hb d_law_931 (lv_at hl 0 rfl) ?_
    refine lv_iconst (v := 2) hx hb d_law_933 (by decide) ?_
    refine lv_iadd hx hb d_law_934 ?_
    refine z_topi (y := 2) (by decide +kernel) ?_
    refine va_sld hx hb hX hbl hbA hS (i := 2) (z_in rfl) d_law_935 ?_
    refine z_topi (y := (xs 2)) (congrArg xs (by decide +kernel)) ?_
    refine lv_aload_n hx hb d_law_936 rfl (lv_at hl 4 rfl) ?_
    refine lv_iload hx hb d_law_937 (lv_at hl 0 rfl) ?_
    refine lv_iconst (v := 3) hx hb d_law_939 (by decide) ?_
    refine lv_iadd hx hb d_law_940 ?_
    refine z_topi (y := 3) (by decide +kernel) ?_
    refine va_sld hx hb hX hbl hbA hS (i := 3) (z_in rfl) d_law_941 ?_
    refine z_topi (y := (xs 3)) (congrArg xs (by decide +kernel)) ?_
    refine lv_if_eq (tgt := 949) hx hb d_law_942 (by decide) (fun _ => ?_) (fun hc => absurd hc_1 hc)
    refine lv_iconst (v := 0) hx hb d_law_949 (by decide) ?_
    refine z_callV (index := 122) (As := [.int (xs 1), .int (xs 2), .int 0]) (rest := [.int (a_held (xs 1) (xs 2) 0)]) (wr := []) Z (t_Model_held l G ((q 170)) ((xs 1)) ((xs 2)) (0) ((q 171)) ((q 172)) ((q 173)) ((q 174)) ((q 175)) ((q 176)) ((q 177)) ((q 178)) ((q 179)) ((q 180)) ((q 181)) ((q 182)) ((q 183)) ((q 184)) ((q 185)) ((q 186)) ((q 187)) ((q 188)) ((q 189)) ((q 190)) ((q 191)) ((q 192)) ((q 193)) ((q 194)) ((q 195)) ((q 196)) ((q 197)) ((q 198)) ((q 199)) ((q 200)) ((q 201)) ((q 202)) ((q 203)) ((q 204)) ((q 205)) ((q 206)) ((q 207)) ((q 208)) ((q 209))) hl.1 q1619 q1620 q1621 q14 q1622 ⟨by decide, by decide, by show _ = some 3; decide +kernel⟩ ⟨Nat.le_of_ble_eq_true rfl, Nat.le_of_ble_eq_true rfl⟩ ⟨Nat.le_of_ble_eq_true rfl, Nat.le_of_ble_eq_true rfl⟩ rfl (Nat.le_of_ble_eq_true rfl) d_law_950 hP hD hS hA 0 12 rfl rfl rfl [0, 1] [] rfl rfl rfl rfl (by decide) (fun v w1 H locs hw_3 hP hD hS => ?_)
    subst hw_3
    refine W.widen (k := 211) (n := 90368) (Nat.le_of_ble_eq_true rfl) (Nat.le_of_ble_eq_true rfl) ?_
    refine W.eq (g2 := F0 m 953 ls [.int (a_held (xs 1) (xs 2) 0), .int (a_held (xs 1) (xs 2) 0)]) rfl ?_
    refine lv_icmp_eq (tgt := 1095) hx hb d_law_953 (by decide) (fun _ => ?_) (fun hc => absurd rfl hc)
    exact law_tail l Z hr hX hbl hS (Nat.le_of_ble_eq_true rfl) (Nat.le_of_ble_eq_true rfl) (lv_sub hl [4, 0] rfl)
  · have _h9 := trivial -- at hc_1
    refine lv_iconst (v := 1) hx hb d_law_915 (by decide) ?_
    refine lv_goto (tgt := 920) hx hb d_law_916 (by decide) ?_
    refine z_callV (index := 118) (As := [.int (xs 1), .int (xs 2), .int 1]) (rest := []) (wr := [((q 170), .inr (12, [.int 0, .ref (q 171), .ref (q 172), .ref (q 173), .ref (q 174), .int 0, .ref (q 175), .int 0, .int 0, .int 0, .int 0, .ref (q 176), .ref (q 177), .ref (q 178), .int 0, .ref (q 179), .ref (q 180), .ref (q 181), .ref (q 182), .ref (q 183), .ref (q 184), .ref (q 185), .ref (q 186), .ref (q 187), .ref (q 188), .ref (q 189), .ref (q 190), .int 0, .ref (q 191), .ref (q 192), .int 0, .int 0, .int 0, .int 0, .ref (q 193), .ref (q 194), .ref (q 195), .ref (q 196), .ref (q 197), .ref (q 198), .ref (q 199), .int 0, .ref (q 200), .ref (q 201), .int 0, .ref (q 202), .ref (q 203), .ref (q 204), .ref (q 205), .ref (q 206), .int 0, .ref (q 207), .ref (q 208), .ref (q 209)])), ((q 171), .inl (G.2 0, 503, .inl (upd (fun _ => 0) 501 1)))]) Z (t_X_held l G ((q 0)) ((xs 1)) ((xs 2)) (1) ((q 1)) ((q 3)) ((q 7)) ((q 11)) ((q 12)) ((q 13)) ((q 22)) ((q 26)) ((q 27)) ((q 36)) ((q 49)) ((q 168)) ((q 52)) ((q 67)) ((q 78)) ((q 80)) ((q 81)) ((q 169)) ((q 4)) ((q 5)) ((q 6))) hl.1 q982 q983 q984 q1 q985 ⟨by decide, by decide, by show _ = some 3; decide +kernel⟩ ⟨Nat.le_of_ble_eq_true rfl, Nat.le_of_ble_eq_true rfl⟩ ⟨Nat.le_of_ble_eq_true rfl, Nat.le_of_ble_eq_true rfl⟩ rfl (Nat.le_of_ble_eq_true rfl) d_law_920 hP hD hS hA 0 0 rfl rfl rfl [0, 3] [170, 171] rfl rfl rfl rfl (by decide) (fun v w1 H locs hw_4 hP hD hS => ?_)
    subst hw_4
    refine W.widen (k := 211) (n := 90368) (Nat.le_of_ble_eq_true rfl) (Nat.le_of_ble_eq_true rfl) ?_
    refine W.eq (g2 := F0 m 923 ls [.int (a_held (xs 1) (xs 2) 1)]) rfl ?_
    refine lv_aload_n hx hb d_law_923 rfl (lv_at hl 2 rfl) ?_
    refine lv_aload_n hx hb d_law_924 rfl (lv_at hl 4 rfl) ?_
    refine lv_iload hx hb d_law_925 (lv_at hl 0 rfl) ?_
    refine lv_iconst (v := 1) hx hb d_law_927 (by decide) ?_
    refine lv_iadd hx hb d_law_928 ?_
    refine z_topi (y := 1) (by decide +kernel) ?_
    refine va_sld hx hb hX hbl hbA hS (i := 1) (z_in rfl) d_law_929 ?_
    refine z_topi (y := (xs 1)) (congrArg xs (by decide +kernel)) ?_
    refine lv_aload_n hx hb d_law_930 rfl (lv_at hl 4 rfl) ?_
    refine lv_iload hx hb d_law_931 (lv_at hl 0 rfl) ?_
    refine lv_iconst (v := 2) hx hb d_law_933 (by decide) ?_
    refine lv_iadd hx hb d_law_934 ?_
    refine z_topi (y := 2) (by decide +kernel) ?_
    refine va_sld hx hb hX hbl hbA hS (i := 2) (z_in rfl) d_law_935 ?_
    refine z_topi (y := (xs 2)) (congrArg xs (by decide +kernel)) ?_
    refine lv_aload_n hx hb d_law_936 rfl (lv_at hl 4 rfl) ?_
    refine lv_iload hx hb d_law_937 (lv_at hl 0 rfl) ?_
    refine lv_iconst (v := 3) hx hb d_law_939 (by decide) ?_
    refine lv_iadd hx hb d_law_940 ?_
    refine z_topi (y := 3) (by decide +kernel) ?_
    refine va_sld hx hb hX hbl hbA hS (i := 3) (z_in rfl) d_law_941 ?_
    refine z_topi (y := (xs 3)) (congrArg xs (by decide +kernel)) ?_
    refine lv_if_eq (tgt := 949) hx hb d_law_942 (by decide) (fun hc => absurd hc hc_1) (fun _ => ?_)
    refine lv_iconst (v := 1) hx hb d_law_945 (by decide) ?_
    refine lv_goto (tgt := 950) hx hb d_law_946 (by decide) ?_
    refine z_callV (index := 122) (As := [.int (xs 1), .int (xs 2), .int 1]) (rest := [.int (a_held (xs 1) (xs 2) 1)]) (wr := []) Z (t_Model_held l G ((q 170)) ((xs 1)) ((xs 2)) (1) ((q 171)) ((q 172)) ((q 173)) ((q 174)) ((q 175)) ((q 176)) ((q 177)) ((q 178)) ((q 179)) ((q 180)) ((q 181)) ((q 182)) ((q 183)) ((q 184)) ((q 185)) ((q 186)) ((q 187)) ((q 188)) ((q 189)) ((q 190)) ((q 191)) ((q 192)) ((q 193)) ((q 194)) ((q 195)) ((q 196)) ((q 197)) ((q 198)) ((q 199)) ((q 200)) ((q 201)) ((q 202)) ((q 203)) ((q 204)) ((q 205)) ((q 206)) ((q 207)) ((q 208)) ((q 209))) hl.1 q1619 q1620 q1621 q14 q1622 ⟨by decide, by decide, by show _ = some 3; decide +kernel⟩ ⟨Nat.le_of_ble_eq_true rfl, Nat.le_of_ble_eq_true rfl⟩ ⟨Nat.le_of_ble_eq_true rfl, Nat.le_of_ble_eq_true rfl⟩ rfl (Nat.le_of_ble_eq_true rfl) d_law_950 hP hD hS hA 0 12 rfl rfl rfl [0, 1] [] rfl rfl rfl rfl (by decide) (fun v w1 H locs hw_5 hP hD hS => ?_)
    subst hw_5
    refine W.widen (k := 211) (n := 90368) (Nat.le_of_ble_eq_true rfl) (Nat.le_of_ble_eq_true rfl) ?_
    refine W.eq (g2 := F0 m 953 ls [.int (a_held (xs 1) (xs 2) 1), .int (a_held (xs 1) (xs 2) 1)]) rfl ?_
    refine lv_icmp_eq (tgt := 1095) hx hb d_law_953 (by decide) (fun _ => ?_) (fun hc => absurd rfl hc)
    exact law_tail l Z hr hX hbl hS (Nat.le_of_ble_eq_true rfl) (Nat.le_of_ble_eq_true rfl) (lv_sub hl [4, 0] rfl)
set_option maxRecDepth 100000 in
set_option maxHeartbeats 4000000 in
theorem law_23 {p : Program} {e : Env} {s : State} {m : MethodId} {below : List Frame} {meth : Method} {c : Code} (l : Launch) {b : Nat} {xs : Nat → Int32} {G : zG} (Z : zC p s m #[Value.ref b] meth c code 7 "TraceMachinesLaw" G) (hr : meth.sig.returnType = ret) (hX : va_X b 5 xs s s.heap) (hbl : b < s.heap.size) (q : Nat → Nat) {H : Heap} {locs : List Loc} {ls : Array Slot} (hP : va_P G.1 classes (lawW G q) H) (hD : va_D (fun q : Nat => s.heap.size ≤ q) (lawW G q)) (hS : va_S (fun q : Nat => s.heap.size ≤ q) s.heap H locs) (hl : lv_has ls 7 [(4, .int 0), (3, .ref (q 210)), (2, .ref (q 170)), (1, .ref (q 0)), (0, .ref b)]) : W p l e room_1 s m #[Value.ref b] below meth c H locs 211 90368 (lw_Z below #[Value.ref b] s) (F0 m 958 ls []) := by
  obtain ⟨hx, hb, hml, hown, hts, hK, hN, hlocks⟩ := id Z
  have hbA : ¬ (fun q : Nat => s.heap.size ≤ q) b := Nat.not_le.mpr hbl
  have hA : ∀ q : Nat, s.heap.size ≤ q → (fun q : Nat => s.heap.size ≤ q) q := fun _ h => h
  refine lv_aload_n hx hb d_law_958 rfl (lv_at hl 3 rfl) ?_
  refine lv_aload_n hx hb d_law_959 rfl (lv_at hl 4 rfl) ?_
  refine lv_iload hx hb d_law_960 (lv_at hl 0 rfl) ?_
  refine lv_iconst (v := 1) hx hb d_law_962 (by decide) ?_
  refine lv_iadd hx hb d_law_963 ?_
  refine z_topi (y := 1) (by decide +kernel) ?_
  refine va_sld hx hb hX hbl hbA hS (i := 1) (z_in rfl) d_law_964 ?_
  refine z_topi (y := (xs 1)) (congrArg xs (by decide +kernel)) ?_
  refine lv_aload_n hx hb d_law_965 rfl (lv_at hl 4 rfl) ?_
  refine lv_iload hx hb d_law_966 (lv_at hl 0 rfl) ?_
  refine lv_iconst (v := 2) hx hb d_law_968 (by decide) ?_
  refine lv_iadd hx hb d_law_969 ?_
  refine z_topi (y := 2) (by decide +kernel) ?_
  refine va_sld hx hb hX hbl hbA hS (i := 2) (z_in rfl) d_law_970 ?_
  refine z_topi (y := (xs 2)) (congrArg xs (by decide +kernel)) ?_
  refine z_callV (index := 123) (As := [.int (xs 1), .int (xs 2)]) (rest := []) (wr := [((q 170), .inr (12, [.int 0, .ref (q 171), .ref (q 172), .ref (q 173), .ref (q 174), .int 0, .ref (q 175), .int 0, .int 0, .int 0, .int 0, .ref (q 176), .ref (q 177), .ref (q 178), .int 0, .ref (q 179), .ref (q 180), .ref (q 181), .ref (q 182), .ref (q 183), .ref (q 184), .ref (q 185), .ref (q 186), .ref (q 187), .ref (q 188), .ref (q 189), .ref (q 190), .int 0, .ref (q 191), .ref (q 192), .int 0, .int 0, .int 0, .int 0, .ref (q 193), .ref (q 194), .ref (q 195), .ref (q 196), .ref (q 197), .ref (q 198), .ref (q 199), .int 0, .ref (q 200), .ref (q 201), .int 0, .ref (q 202), .ref (q 203), .ref (q 204), .ref (q 205), .ref (q 206), .int 0, .ref (q 207), .ref (q 208), .ref (q 209)])), ((q 171), .inl (G.2 0, 503, .inl (upd (fun _ => 0) 501 1))), ((q 179), .inl (G.2 0, 2, .inl (fun _ => 0))), ((q 180), .inl (G.2 0, 4820, .inl (fun _ => 0))), ((q 183), .inl (G.2 0, 482, .inl (fun _ => 0))), ((q 185), .inl (G.2 0, 2, .inl (fun _ => 0))), ((q 189), .inl (G.2 0, 2, .inl (fun _ => 0)))]) Z (t_X_fit l G ((q 0)) ((xs 1)) ((xs 2)) ((q 1)) ((q 3)) ((q 7)) ((q 11)) ((q 12)) ((q 13)) ((q 22)) ((q 26)) ((q 27)) ((q 36)) ((q 49)) ((q 168)) ((q 52)) ((q 67)) ((q 78)) ((q 80)) ((q 81)) ((q 169)) ((q 4)) ((q 5)) ((q 6)) ((q 116)) ((q 129)) ((q 142)) ((q 155)) ((q 14)) ((q 15)) ((q 16)) ((q 17)) ((q 18)) ((q 19)) ((q 20)) ((q 21)) ((q 117)) ((q 118)) ((q 119)) ((q 120)) ((q 121)) ((q 122)) ((q 123)) ((q 124)) ((q 125)) ((q 126)) ((q 127)) ((q 128)) ((q 23)) ((q 24)) ((q 25)) ((q 130)) ((q 131)) ((q 132)) ((q 133)) ((q 134)) ((q 135)) ((q 136)) ((q 137)) ((q 138)) ((q 139)) ((q 140)) ((q 141)) ((q 143)) ((q 144)) ((q 145)) ((q 146)) ((q 147)) ((q 148)) ((q 149)) ((q 150)) ((q 151)) ((q 152)) ((q 153)) ((q 154)) ((q 156)) ((q 157)) ((q 158)) ((q 159)) ((q 160)) ((q 161)) ((q 162)) ((q 163)) ((q 164)) ((q 165)) ((q 166)) ((q 167))) hl.1 q994 q995 q996 q1 q997 ⟨by decide, by decide, by show _ = some 2; decide +kernel⟩ ⟨Nat.le_of_ble_eq_true rfl, Nat.le_of_ble_eq_true rfl⟩ ⟨Nat.le_of_ble_eq_true rfl, Nat.le_of_ble_eq_true rfl⟩ rfl (Nat.le_of_ble_eq_true rfl) d_law_971 hP hD hS hA 0 0 rfl rfl rfl [0, 169, 3, 26, 13, 116, 22, 25, 122, 127, 129, 135, 140, 142, 148, 153, 155, 161, 166] [170, 171, 179, 180, 183, 185, 189] rfl rfl rfl rfl (by decide) (fun v w1 H locs hw_1 hP hD hS => ?_)
  subst hw_1
  refine W.widen (k := 211) (n := 90368) (Nat.le_of_ble_eq_true rfl) (Nat.le_of_ble_eq_true rfl) ?_
  refine W.eq (g2 := F0 m 974 ls [.int (a_fit (xs 1) (xs 2))]) rfl ?_
  refine lv_aload_n hx hb d_law_974 rfl (lv_at hl 2 rfl) ?_
  refine lv_aload_n hx hb d_law_975 rfl (lv_at hl 4 rfl) ?_
  refine lv_iload hx hb d_law_976 (lv_at hl 0 rfl) ?_
  refine lv_iconst (v := 1) hx hb d_law_978 (by decide) ?_
  refine lv_iadd hx hb d_law_979 ?_
  refine z_topi (y := 1) (by decide +kernel) ?_
  refine va_sld hx hb hX hbl hbA hS (i := 1) (z_in rfl) d_law_980 ?_
  refine z_topi (y := (xs 1)) (congrArg xs (by decide +kernel)) ?_
  refine lv_aload_n hx hb d_law_981 rfl (lv_at hl 4 rfl) ?_
  refine lv_iload hx hb d_law_982 (lv_at hl 0 rfl) ?_
  refine lv_iconst (v := 2) hx hb d_law_984 (by decide) ?_
  refine lv_iadd hx hb d_law_985 ?_
  refine z_topi (y := 2) (by decide +kernel) ?_
  refine va_sld hx hb hX hbl hbA hS (i := 2) (z_in rfl) d_law_986 ?_
  refine z_topi (y := (xs 2)) (congrArg xs (by decide +kernel)) ?_
  refine z_callV (index := 126) (As := [.int (xs 1), .int (xs 2)]) (rest := [.int (a_fit (xs 1) (xs 2))]) (wr := []) Z (t_Model_fit l G ((q 170)) ((xs 1)) ((xs 2)) ((q 171)) ((q 172)) ((q 173)) ((q 174)) ((q 175)) ((q 176)) ((q 177)) ((q 178)) ((q 179)) ((q 180)) ((q 181)) ((q 182)) ((q 183)) ((q 184)) ((q 185)) ((q 186)) ((q 187)) ((q 188)) ((q 189)) ((q 190)) ((q 191)) ((q 192)) ((q 193)) ((q 194)) ((q 195)) ((q 196)) ((q 197)) ((q 198)) ((q 199)) ((q 200)) ((q 201)) ((q 202)) ((q 203)) ((q 204)) ((q 205)) ((q 206)) ((q 207)) ((q 208)) ((q 209))) hl.1 q1631 q1632 q1633 q14 q1634 ⟨by decide, by decide, by show _ = some 2; decide +kernel⟩ ⟨Nat.le_of_ble_eq_true rfl, Nat.le_of_ble_eq_true rfl⟩ ⟨Nat.le_of_ble_eq_true rfl, Nat.le_of_ble_eq_true rfl⟩ rfl (Nat.le_of_ble_eq_true rfl) d_law_987 hP hD hS hA 0 12 rfl rfl rfl [0, 1, 2, 3, 4, 5, 6] [] rfl rfl rfl rfl (by decide) (fun v w1 H locs hw_2 hP hD hS => ?_)
  subst hw_2
  refine W.widen (k := 211) (n := 90368) (Nat.le_of_ble_eq_true rfl) (Nat.le_of_ble_eq_true rfl) ?_
  refine W.eq (g2 := F0 m 990 ls [.int (a_fit (xs 1) (xs 2)), .int (a_fit (xs 1) (xs 2))]) rfl ?_
  refine lv_icmp_eq (tgt := 1095) hx hb d_law_990 (by decide) (fun _ => ?_) (fun hc => absurd rfl hc)
  exact law_tail l Z hr hX hbl hS (Nat.le_of_ble_eq_true rfl) (Nat.le_of_ble_eq_true rfl) (lv_sub hl [4, 0] rfl)
set_option maxRecDepth 100000 in
set_option maxHeartbeats 4000000 in
theorem law_24 {p : Program} {e : Env} {s : State} {m : MethodId} {below : List Frame} {meth : Method} {c : Code} (l : Launch) {b : Nat} {xs : Nat → Int32} {G : zG} (Z : zC p s m #[Value.ref b] meth c code 7 "TraceMachinesLaw" G) (hr : meth.sig.returnType = ret) (hX : va_X b 5 xs s s.heap) (hbl : b < s.heap.size) (q : Nat → Nat) {H : Heap} {locs : List Loc} {ls : Array Slot} (hP : va_P G.1 classes (lawW G q) H) (hD : va_D (fun q : Nat => s.heap.size ≤ q) (lawW G q)) (hS : va_S (fun q : Nat => s.heap.size ≤ q) s.heap H locs) (hl : lv_has ls 7 [(4, .int 0), (3, .ref (q 210)), (2, .ref (q 170)), (1, .ref (q 0)), (0, .ref b)]) : W p l e room_1 s m #[Value.ref b] below meth c H locs 211 90368 (lw_Z below #[Value.ref b] s) (F0 m 995 ls []) := by
  obtain ⟨hx, hb, hml, hown, hts, hK, hN, hlocks⟩ := id Z
  have hbA : ¬ (fun q : Nat => s.heap.size ≤ q) b := Nat.not_le.mpr hbl
  have hA : ∀ q : Nat, s.heap.size ≤ q → (fun q : Nat => s.heap.size ≤ q) q := fun _ h => h
  refine lv_aload_n hx hb d_law_995 rfl (lv_at hl 3 rfl) ?_
  refine lv_aload_n hx hb d_law_996 rfl (lv_at hl 4 rfl) ?_
  refine lv_iload hx hb d_law_997 (lv_at hl 0 rfl) ?_
  refine lv_iconst (v := 1) hx hb d_law_999 (by decide) ?_
  refine lv_iadd hx hb d_law_1000 ?_
  refine z_topi (y := 1) (by decide +kernel) ?_
  refine va_sld hx hb hX hbl hbA hS (i := 1) (z_in rfl) d_law_1001 ?_
  refine z_topi (y := (xs 1)) (congrArg xs (by decide +kernel)) ?_
  refine z_callV (index := 127) (As := [.int (xs 1)]) (rest := []) (wr := [((q 170), .inr (12, [.int 0, .ref (q 171), .ref (q 172), .ref (q 173), .ref (q 174), .int 0, .ref (q 175), .int 0, .int 0, .int 0, .int 0, .ref (q 176), .ref (q 177), .ref (q 178), .int 0, .ref (q 179), .ref (q 180), .ref (q 181), .ref (q 182), .ref (q 183), .ref (q 184), .ref (q 185), .ref (q 186), .ref (q 187), .ref (q 188), .ref (q 189), .ref (q 190), .int 0, .ref (q 191), .ref (q 192), .int 0, .int 0, .int 0, .int 0, .ref (q 193), .ref (q 194), .ref (q 195), .ref (q 196), .ref (q 197), .ref (q 198), .ref (q 199), .int 0, .ref (q 200), .ref (q 201), .int 0, .ref (q 202), .ref (q 203), .ref (q 204), .ref (q 205), .ref (q 206), .int 0, .ref (q 207), .ref (q 208), .ref (q 209)])), ((q 171), .inl (G.2 0, 503, .inl (upd (fun _ => 0) 501 1)))]) Z (t_X_best l G ((q 0)) ((xs 1)) ((q 1)) ((q 3)) ((q 7)) ((q 11)) ((q 12)) ((q 13)) ((q 22)) ((q 26)) ((q 27)) ((q 36)) ((q 49)) ((q 168)) ((q 52)) ((q 67)) ((q 78)) ((q 80)) ((q 81)) ((q 169)) ((q 4)) ((q 5)) ((q 6))) hl.1 q1002 q1003 q1004 q1 q1005 ⟨by decide, by decide, by show _ = some 1; decide +kernel⟩ ⟨Nat.le_of_ble_eq_true rfl, Nat.le_of_ble_eq_true rfl⟩ ⟨Nat.le_of_ble_eq_true rfl, Nat.le_of_ble_eq_true rfl⟩ rfl (Nat.le_of_ble_eq_true rfl) d_law_1002 hP hD hS hA 0 0 rfl rfl rfl [0, 3] [170, 171] rfl rfl rfl rfl (by decide) (fun v w1 H locs hw_1 hP hD hS => ?_)
  subst hw_1
  refine W.widen (k := 211) (n := 90368) (Nat.le_of_ble_eq_true rfl) (Nat.le_of_ble_eq_true rfl) ?_
  refine W.eq (g2 := F0 m 1005 ls [.int (a_best (xs 1))]) rfl ?_
  refine lv_aload_n hx hb d_law_1005 rfl (lv_at hl 2 rfl) ?_
  refine lv_aload_n hx hb d_law_1006 rfl (lv_at hl 4 rfl) ?_
  refine lv_iload hx hb d_law_1007 (lv_at hl 0 rfl) ?_
  refine lv_iconst (v := 1) hx hb d_law_1009 (by decide) ?_
  refine lv_iadd hx hb d_law_1010 ?_
  refine z_topi (y := 1) (by decide +kernel) ?_
  refine va_sld hx hb hX hbl hbA hS (i := 1) (z_in rfl) d_law_1011 ?_
  refine z_topi (y := (xs 1)) (congrArg xs (by decide +kernel)) ?_
  refine z_callV (index := 130) (As := [.int (xs 1)]) (rest := [.int (a_best (xs 1))]) (wr := []) Z (t_Model_best l G ((q 170)) ((xs 1)) ((q 171)) ((q 172)) ((q 173)) ((q 174)) ((q 175)) ((q 176)) ((q 177)) ((q 178)) ((q 179)) ((q 180)) ((q 181)) ((q 182)) ((q 183)) ((q 184)) ((q 185)) ((q 186)) ((q 187)) ((q 188)) ((q 189)) ((q 190)) ((q 191)) ((q 192)) ((q 193)) ((q 194)) ((q 195)) ((q 196)) ((q 197)) ((q 198)) ((q 199)) ((q 200)) ((q 201)) ((q 202)) ((q 203)) ((q 204)) ((q 205)) ((q 206)) ((q 207)) ((q 208)) ((q 209))) hl.1 q1639 q1640 q1641 q14 q1642 ⟨by decide, by decide, by show _ = some 1; decide +kernel⟩ ⟨Nat.le_of_ble_eq_true rfl, Nat.le_of_ble_eq_true rfl⟩ ⟨Nat.le_of_ble_eq_true rfl, Nat.le_of_ble_eq_true rfl⟩ rfl (Nat.le_of_ble_eq_true rfl) d_law_1012 hP hD hS hA 0 12 rfl rfl rfl [0, 1] [] rfl rfl rfl rfl (by decide) (fun v w1 H locs hw_2 hP hD hS => ?_)
  subst hw_2
  refine W.widen (k := 211) (n := 90368) (Nat.le_of_ble_eq_true rfl) (Nat.le_of_ble_eq_true rfl) ?_
  refine W.eq (g2 := F0 m 1015 ls [.int (a_best (xs 1)), .int (a_best (xs 1))]) rfl ?_
  refine lv_icmp_eq (tgt := 1095) hx hb d_law_1015 (by decide) (fun _ => ?_) (fun hc => absurd rfl hc)
  exact law_tail l Z hr hX hbl hS (Nat.le_of_ble_eq_true rfl) (Nat.le_of_ble_eq_true rfl) (lv_sub hl [4, 0] rfl)
set_option maxRecDepth 100000 in
set_option maxHeartbeats 4000000 in
theorem law_25 {p : Program} {e : Env} {s : State} {m : MethodId} {below : List Frame} {meth : Method} {c : Code} (l : Launch) {b : Nat} {xs : Nat → Int32} {G : zG} (Z : zC p s m #[Value.ref b] meth c code 7 "TraceMachinesLaw" G) (hr : meth.sig.returnType = ret) (hX : va_X b 5 xs s s.heap) (hbl : b < s.heap.size) (q : Nat → Nat) {H : Heap} {locs : List Loc} {ls : Array Slot} (hP : va_P G.1 classes (lawW G q) H) (hD : va_D (fun q : Nat => s.heap.size ≤ q) (lawW G q)) (hS : va_S (fun q : Nat => s.heap.size ≤ q) s.heap H locs) (hl : lv_has ls 7 [(4, .int 0), (3, .ref (q 210)), (2, .ref (q 170)), (1, .ref (q 0)), (0, .ref b)]) : W p l e room_1 s m #[Value.ref b] below meth c H locs 211 90368 (lw_Z below #[Value.ref b] s) (F0 m 1020 ls []) := by
  obtain ⟨hx, hb, hml, hown, hts, hK, hN, hlocks⟩ := id Z
  have hbA : ¬ (fun q : Nat => s.heap.size ≤ q) b := Nat.not_le.mpr hbl
  have hA : ∀ q : Nat, s.heap.size ≤ q → (fun q : Nat => s.heap.size ≤ q) q := fun _ h => h
  refine lv_aload_n hx hb d_law_1020 rfl (lv_at hl 3 rfl) ?_
  refine lv_aload_n hx hb d_law_1021 rfl (lv_at hl 4 rfl) ?_
  refine lv_iload hx hb d_law_1022 (lv_at hl 0 rfl) ?_
  refine lv_iconst (v := 1) hx hb d_law_1024 (by decide) ?_
  refine lv_iadd hx hb d_law_1025 ?_
  refine z_topi (y := 1) (by decide +kernel) ?_
  refine va_sld hx hb hX hbl hbA hS (i := 1) (z_in rfl) d_law_1026 ?_
  refine z_topi (y := (xs 1)) (congrArg xs (by decide +kernel)) ?_
  refine z_callV (index := 131) (As := [.int (xs 1)]) (rest := []) (wr := [((q 170), .inr (12, [.int 0, .ref (q 171), .ref (q 172), .ref (q 173), .ref (q 174), .int 0, .ref (q 175), .int 0, .int 0, .int 0, .int 0, .ref (q 176), .ref (q 177), .ref (q 178), .int 0, .ref (q 179), .ref (q 180), .ref (q 181), .ref (q 182), .ref (q 183), .ref (q 184), .ref (q 185), .ref (q 186), .ref (q 187), .ref (q 188), .ref (q 189), .ref (q 190), .int 0, .ref (q 191), .ref (q 192), .int 0, .int 0, .int 0, .int 0, .ref (q 193), .ref (q 194), .ref (q 195), .ref (q 196), .ref (q 197), .ref (q 198), .ref (q 199), .int 0, .ref (q 200), .ref (q 201), .int 0, .ref (q 202), .ref (q 203), .ref (q 204), .ref (q 205), .ref (q 206), .int 0, .ref (q 207), .ref (q 208), .ref (q 209)])), ((q 173), .inl (G.2 4, 2, .inl (fun _ => 0))), ((q 171), .inl (G.2 0, 503, .inl (upd (fun _ => 0) 501 1))), ((q 172), .inl (G.2 0, 1006, .inl (fun _ => 0)))]) Z (t_X_keep l G ((q 0)) ((xs 1)) ((q 1)) ((q 3)) ((q 7)) ((q 11)) ((q 12)) ((q 13)) ((q 22)) ((q 26)) ((q 27)) ((q 36)) ((q 49)) ((q 168)) ((q 52)) ((q 67)) ((q 78)) ((q 80)) ((q 81)) ((q 169)) ((q 4)) ((q 5)) ((q 6))) hl.1 q1006 q1007 q1008 q1 q1009 ⟨by decide, by decide, by show _ = some 1; decide +kernel⟩ ⟨Nat.le_of_ble_eq_true rfl, Nat.le_of_ble_eq_true rfl⟩ ⟨Nat.le_of_ble_eq_true rfl, Nat.le_of_ble_eq_true rfl⟩ rfl (Nat.le_of_ble_eq_true rfl) d_law_1027 hP hD hS hA 0 0 rfl rfl rfl [0, 12, 3, 4, 5, 6] [170, 173, 171, 172] rfl rfl rfl rfl (by decide) (fun v w1 H locs hw_1 hP hD hS => ?_)
  subst hw_1
  refine W.widen (k := 215) (n := 90874) (Nat.le_of_ble_eq_true rfl) (Nat.le_of_ble_eq_true rfl) ?_
  refine W.eq (g2 := F0 m 1030 ls [.int (a_keep (xs 1))]) rfl ?_
  refine lv_aload_n hx hb d_law_1030 rfl (lv_at hl 2 rfl) ?_
  refine lv_aload_n hx hb d_law_1031 rfl (lv_at hl 4 rfl) ?_
  refine lv_iload hx hb d_law_1032 (lv_at hl 0 rfl) ?_
  refine lv_iconst (v := 1) hx hb d_law_1034 (by decide) ?_
  refine lv_iadd hx hb d_law_1035 ?_
  refine z_topi (y := 1) (by decide +kernel) ?_
  refine va_sld hx hb hX hbl hbA hS (i := 1) (z_in rfl) d_law_1036 ?_
  refine z_topi (y := (xs 1)) (congrArg xs (by decide +kernel)) ?_
  refine z_callV (index := 134) (As := [.int (xs 1)]) (rest := [.int (a_keep (xs 1))]) (wr := []) Z (t_Model_keep l G ((q 170)) ((xs 1)) ((q 171)) ((q 172)) ((q 173)) ((q 174)) ((q 175)) ((q 176)) ((q 177)) ((q 178)) ((q 179)) ((q 180)) ((q 181)) ((q 182)) ((q 183)) ((q 184)) ((q 185)) ((q 186)) ((q 187)) ((q 188)) ((q 189)) ((q 190)) ((q 191)) ((q 192)) ((q 193)) ((q 194)) ((q 195)) ((q 196)) ((q 197)) ((q 198)) ((q 199)) ((q 200)) ((q 201)) ((q 202)) ((q 203)) ((q 204)) ((q 205)) ((q 206)) ((q 207)) ((q 208)) ((q 209))) hl.1 q1643 q1644 q1645 q14 q1646 ⟨by decide, by decide, by show _ = some 1; decide +kernel⟩ ⟨Nat.le_of_ble_eq_true rfl, Nat.le_of_ble_eq_true rfl⟩ ⟨Nat.le_of_ble_eq_true rfl, Nat.le_of_ble_eq_true rfl⟩ rfl (Nat.le_of_ble_eq_true rfl) d_law_1037 hP hD hS hA 0 12 rfl rfl rfl [0, 1, 2, 3] [] rfl rfl rfl rfl (by decide) (fun v w1 H locs hw_2 hP hD hS => ?_)
  subst hw_2
  refine W.widen (k := 215) (n := 90874) (Nat.le_of_ble_eq_true rfl) (Nat.le_of_ble_eq_true rfl) ?_
  refine W.eq (g2 := F0 m 1040 ls [.int (a_keep (xs 1)), .int (a_keep (xs 1))]) rfl ?_
  refine lv_icmp_eq (tgt := 1095) hx hb d_law_1040 (by decide) (fun _ => ?_) (fun hc => absurd rfl hc)
  exact law_tail l Z hr hX hbl hS (Nat.le_of_ble_eq_true rfl) (Nat.le_of_ble_eq_true rfl) (lv_sub hl [4, 0] rfl)
set_option maxRecDepth 100000 in
set_option maxHeartbeats 4000000 in
theorem law_26 {p : Program} {e : Env} {s : State} {m : MethodId} {below : List Frame} {meth : Method} {c : Code} (l : Launch) {b : Nat} {xs : Nat → Int32} {G : zG} (Z : zC p s m #[Value.ref b] meth c code 7 "TraceMachinesLaw" G) (hr : meth.sig.returnType = ret) (hX : va_X b 5 xs s s.heap) (hbl : b < s.heap.size) (q : Nat → Nat) {H : Heap} {locs : List Loc} {ls : Array Slot} (hP : va_P G.1 classes (lawW G q) H) (hD : va_D (fun q : Nat => s.heap.size ≤ q) (lawW G q)) (hS : va_S (fun q : Nat => s.heap.size ≤ q) s.heap H locs) (hl : lv_has ls 7 [(4, .int 0), (3, .ref (q 210)), (2, .ref (q 170)), (1, .ref (q 0)), (0, .ref b)]) : W p l e room_1 s m #[Value.ref b] below meth c H locs 211 90368 (lw_Z below #[Value.ref b] s) (F0 m 1045 ls []) := by
  obtain ⟨hx, hb, hml, hown, hts, hK, hN, hlocks⟩ := id Z
  have hbA : ¬ (fun q : Nat => s.heap.size ≤ q) b := Nat.not_le.mpr hbl
  have hA : ∀ q : Nat, s.heap.size ≤ q → (fun q : Nat => s.heap.size ≤ q) q := fun _ h => h
  refine lv_aload_n hx hb d_law_1045 rfl (lv_at hl 3 rfl) ?_
  refine lv_aload_n hx hb d_law_1046 rfl (lv_at hl 4 rfl) ?_
  refine lv_iload hx hb d_law_1047 (lv_at hl 0 rfl) ?_
  refine lv_iconst (v := 1) hx hb d_law_1049 (by decide) ?_
  refine lv_iadd hx hb d_law_1050 ?_
  refine z_topi (y := 1) (by decide +kernel) ?_
  refine va_sld hx hb hX hbl hbA hS (i := 1) (z_in rfl) d_law_1051 ?_
  refine z_topi (y := (xs 1)) (congrArg xs (by decide +kernel)) ?_
  refine z_callV (index := 135) (As := [.int (xs 1)]) (rest := []) (wr := [((q 170), .inr (12, [.int 0, .ref (q 171), .ref (q 172), .ref (q 173), .ref (q 174), .int 0, .ref (q 175), .int 0, .int 0, .int 0, .int 0, .ref (q 176), .ref (q 177), .ref (q 178), .int 0, .ref (q 179), .ref (q 180), .ref (q 181), .ref (q 182), .ref (q 183), .ref (q 184), .ref (q 185), .ref (q 186), .ref (q 187), .ref (q 188), .ref (q 189), .ref (q 190), .int 0, .ref (q 191), .ref (q 192), .int 0, .int 0, .int 0, .int 0, .ref (q 193), .ref (q 194), .ref (q 195), .ref (q 196), .ref (q 197), .ref (q 198), .ref (q 199), .int 0, .ref (q 200), .ref (q 201), .int 0, .ref (q 202), .ref (q 203), .ref (q 204), .ref (q 205), .ref (q 206), .int 0, .ref (q 207), .ref (q 208), .ref (q 209)])), ((q 173), .inl (G.2 4, 2, .inl (fun _ => 0)))]) Z (t_X_again l G ((q 0)) ((xs 1)) ((q 1)) ((q 3)) ((q 7)) ((q 11)) ((q 12)) ((q 13)) ((q 22)) ((q 26)) ((q 27)) ((q 36)) ((q 49)) ((q 168)) ((q 52)) ((q 67)) ((q 78)) ((q 80)) ((q 81)) ((q 169))) hl.1 q1010 q1011 q1012 q1 q1013 ⟨by decide, by decide, by show _ = some 1; decide +kernel⟩ ⟨Nat.le_of_ble_eq_true rfl, Nat.le_of_ble_eq_true rfl⟩ ⟨Nat.le_of_ble_eq_true rfl, Nat.le_of_ble_eq_true rfl⟩ rfl (Nat.le_of_ble_eq_true rfl) d_law_1052 hP hD hS hA 0 0 rfl rfl rfl [0, 12] [170, 173] rfl rfl rfl rfl (by decide) (fun v w1 H locs hw_1 hP hD hS => ?_)
  subst hw_1
  refine W.widen (k := 211) (n := 90368) (Nat.le_of_ble_eq_true rfl) (Nat.le_of_ble_eq_true rfl) ?_
  refine W.eq (g2 := F0 m 1055 ls [.int (a_again (xs 1))]) rfl ?_
  refine lv_aload_n hx hb d_law_1055 rfl (lv_at hl 2 rfl) ?_
  refine lv_aload_n hx hb d_law_1056 rfl (lv_at hl 4 rfl) ?_
  refine lv_iload hx hb d_law_1057 (lv_at hl 0 rfl) ?_
  refine lv_iconst (v := 1) hx hb d_law_1059 (by decide) ?_
  refine lv_iadd hx hb d_law_1060 ?_
  refine z_topi (y := 1) (by decide +kernel) ?_
  refine va_sld hx hb hX hbl hbA hS (i := 1) (z_in rfl) d_law_1061 ?_
  refine z_topi (y := (xs 1)) (congrArg xs (by decide +kernel)) ?_
  refine z_callV (index := 138) (As := [.int (xs 1)]) (rest := [.int (a_again (xs 1))]) (wr := []) Z (t_Model_again l G ((q 170)) ((xs 1)) ((q 171)) ((q 172)) ((q 173)) ((q 174)) ((q 175)) ((q 176)) ((q 177)) ((q 178)) ((q 179)) ((q 180)) ((q 181)) ((q 182)) ((q 183)) ((q 184)) ((q 185)) ((q 186)) ((q 187)) ((q 188)) ((q 189)) ((q 190)) ((q 191)) ((q 192)) ((q 193)) ((q 194)) ((q 195)) ((q 196)) ((q 197)) ((q 198)) ((q 199)) ((q 200)) ((q 201)) ((q 202)) ((q 203)) ((q 204)) ((q 205)) ((q 206)) ((q 207)) ((q 208)) ((q 209))) hl.1 q1647 q1648 q1649 q14 q1650 ⟨by decide, by decide, by show _ = some 1; decide +kernel⟩ ⟨Nat.le_of_ble_eq_true rfl, Nat.le_of_ble_eq_true rfl⟩ ⟨Nat.le_of_ble_eq_true rfl, Nat.le_of_ble_eq_true rfl⟩ rfl (Nat.le_of_ble_eq_true rfl) d_law_1062 hP hD hS hA 0 12 rfl rfl rfl [0, 1] [] rfl rfl rfl rfl (by decide) (fun v w1 H locs hw_2 hP hD hS => ?_)
  subst hw_2
  refine W.widen (k := 211) (n := 90368) (Nat.le_of_ble_eq_true rfl) (Nat.le_of_ble_eq_true rfl) ?_
  refine W.eq (g2 := F0 m 1065 ls [.int (a_again (xs 1)), .int (a_again (xs 1))]) rfl ?_
  refine lv_icmp_eq (tgt := 1095) hx hb d_law_1065 (by decide) (fun _ => ?_) (fun hc => absurd rfl hc)
  exact law_tail l Z hr hX hbl hS (Nat.le_of_ble_eq_true rfl) (Nat.le_of_ble_eq_true rfl) (lv_sub hl [4, 0] rfl)
set_option maxRecDepth 100000 in
set_option maxHeartbeats 4000000 in
theorem law_27 {p : Program} {e : Env} {s : State} {m : MethodId} {below : List Frame} {meth : Method} {c : Code} (l : Launch) {b : Nat} {xs : Nat → Int32} {G : zG} (Z : zC p s m #[Value.ref b] meth c code 7 "TraceMachinesLaw" G) (hr : meth.sig.returnType = ret) (hX : va_X b 5 xs s s.heap) (hbl : b < s.heap.size) (q : Nat → Nat) {H : Heap} {locs : List Loc} {ls : Array Slot} (hP : va_P G.1 classes (lawW G q) H) (hD : va_D (fun q : Nat => s.heap.size ≤ q) (lawW G q)) (hS : va_S (fun q : Nat => s.heap.size ≤ q) s.heap H locs) (hl : lv_has ls 7 [(4, .int 0), (3, .ref (q 210)), (2, .ref (q 170)), (1, .ref (q 0)), (0, .ref b)]) : W p l e room_1 s m #[Value.ref b] below meth c H locs 211 90368 (lw_Z below #[Value.ref b] s) (F0 m 1070 ls []) := by
  obtain ⟨hx, hb, hml, hown, hts, hK, hN, hlocks⟩ := id Z
  have hbA : ¬ (fun q : Nat => s.heap.size ≤ q) b := Nat.not_le.mpr hbl
  have hA : ∀ q : Nat, s.heap.size ≤ q → (fun q : Nat => s.heap.size ≤ q) q := fun _ h => h
  refine lv_aload_n hx hb d_law_1070 rfl (lv_at hl 3 rfl) ?_
  refine lv_aload_n hx hb d_law_1071 rfl (lv_at hl 4 rfl) ?_
  refine lv_iload hx hb d_law_1072 (lv_at hl 0 rfl) ?_
  refine lv_iconst (v := 1) hx hb d_law_1074 (by decide) ?_
  refine lv_iadd hx hb d_law_1075 ?_
  refine z_topi (y := 1) (by decide +kernel) ?_
  refine va_sld hx hb hX hbl hbA hS (i := 1) (z_in rfl) d_law_1076 ?_
  refine z_topi (y := (xs 1)) (congrArg xs (by decide +kernel)) ?_
  refine z_callV (index := 139) (As := [.int (xs 1)]) (rest := []) (wr := [((q 170), .inr (12, [.int 0, .ref (q 171), .ref (q 172), .ref (q 173), .ref (q 174), .int 0, .ref (q 175), .int 0, .int 0, .int 0, .int 0, .ref (q 176), .ref (q 177), .ref (q 178), .int 0, .ref (q 179), .ref (q 180), .ref (q 181), .ref (q 182), .ref (q 183), .ref (q 184), .ref (q 185), .ref (q 186), .ref (q 187), .ref (q 188), .ref (q 189), .ref (q 190), .int 0, .ref (q 191), .ref (q 192), .int 0, .int 0, .int 0, .int 0, .ref (q 193), .ref (q 194), .ref (q 195), .ref (q 196), .ref (q 197), .ref (q 198), .ref (q 199), .int 0, .ref (q 200), .ref (q 201), .int 0, .ref (q 202), .ref (q 203), .ref (q 204), .ref (q 205), .ref (q 206), .int 0, .ref (q 207), .ref (q 208), .ref (q 209)])), ((q 171), .inl (G.2 0, 503, .inl (upd (fun _ => 0) 501 1))), ((q 179), .inl (G.2 0, 2, .inl (fun _ => 0))), ((q 180), .inl (G.2 0, 4820, .inl (fun _ => 0))), ((q 183), .inl (G.2 0, 482, .inl (fun _ => 0))), ((q 185), .inl (G.2 0, 2, .inl (fun _ => 0))), ((q 189), .inl (G.2 0, 2, .inl (fun _ => 0)))]) Z (t_X_count l G ((q 0)) ((xs 1)) ((q 1)) ((q 3)) ((q 7)) ((q 11)) ((q 12)) ((q 13)) ((q 22)) ((q 26)) ((q 27)) ((q 36)) ((q 49)) ((q 168)) ((q 52)) ((q 67)) ((q 78)) ((q 80)) ((q 81)) ((q 169)) ((q 4)) ((q 5)) ((q 6)) ((q 116)) ((q 129)) ((q 142)) ((q 155)) ((q 14)) ((q 15)) ((q 16)) ((q 17)) ((q 18)) ((q 19)) ((q 20)) ((q 21)) ((q 130)) ((q 131)) ((q 132)) ((q 133)) ((q 134)) ((q 135)) ((q 136)) ((q 137)) ((q 138)) ((q 139)) ((q 140)) ((q 141)) ((q 23)) ((q 24)) ((q 25)) ((q 2))) hl.1 q1014 q1015 q1016 q1 q1017 ⟨by decide, by decide, by show _ = some 1; decide +kernel⟩ ⟨Nat.le_of_ble_eq_true rfl, Nat.le_of_ble_eq_true rfl⟩ ⟨Nat.le_of_ble_eq_true rfl, Nat.le_of_ble_eq_true rfl⟩ rfl (Nat.le_of_ble_eq_true rfl) d_law_1077 hP hD hS hA 0 0 rfl rfl rfl [0, 3, 26, 13, 129, 22, 25, 135, 140, 1] [170, 171, 179, 180, 183, 185, 189] rfl rfl rfl rfl (by decide) (fun v w1 H locs hw_1 hP hD hS => ?_)
  subst hw_1
  refine W.widen (k := 211) (n := 90368) (Nat.le_of_ble_eq_true rfl) (Nat.le_of_ble_eq_true rfl) ?_
  refine W.eq (g2 := F0 m 1080 ls [.int (a_count (xs 1))]) rfl ?_
  refine lv_aload_n hx hb d_law_1080 rfl (lv_at hl 2 rfl) ?_
  refine lv_aload_n hx hb d_law_1081 rfl (lv_at hl 4 rfl) ?_
  refine lv_iload hx hb d_law_1082 (lv_at hl 0 rfl) ?_
  refine lv_iconst (v := 1) hx hb d_law_1084 (by decide) ?_
  refine lv_iadd hx hb d_law_1085 ?_
  refine z_topi (y := 1) (by decide +kernel) ?_
  refine va_sld hx hb hX hbl hbA hS (i := 1) (z_in rfl) d_law_1086 ?_
  refine z_topi (y := (xs 1)) (congrArg xs (by decide +kernel)) ?_
  refine z_callV (index := 142) (As := [.int (xs 1)]) (rest := [.int (a_count (xs 1))]) (wr := []) Z (t_Model_count l G ((q 170)) ((xs 1)) ((q 171)) ((q 172)) ((q 173)) ((q 174)) ((q 175)) ((q 176)) ((q 177)) ((q 178)) ((q 179)) ((q 180)) ((q 181)) ((q 182)) ((q 183)) ((q 184)) ((q 185)) ((q 186)) ((q 187)) ((q 188)) ((q 189)) ((q 190)) ((q 191)) ((q 192)) ((q 193)) ((q 194)) ((q 195)) ((q 196)) ((q 197)) ((q 198)) ((q 199)) ((q 200)) ((q 201)) ((q 202)) ((q 203)) ((q 204)) ((q 205)) ((q 206)) ((q 207)) ((q 208)) ((q 209))) hl.1 q1651 q1652 q1653 q14 q1654 ⟨by decide, by decide, by show _ = some 1; decide +kernel⟩ ⟨Nat.le_of_ble_eq_true rfl, Nat.le_of_ble_eq_true rfl⟩ ⟨Nat.le_of_ble_eq_true rfl, Nat.le_of_ble_eq_true rfl⟩ rfl (Nat.le_of_ble_eq_true rfl) d_law_1087 hP hD hS hA 0 12 rfl rfl rfl [0, 1, 2, 3, 4, 5, 6] [] rfl rfl rfl rfl (by decide) (fun v w1 H locs hw_2 hP hD hS => ?_)
  subst hw_2
  refine W.widen (k := 211) (n := 90368) (Nat.le_of_ble_eq_true rfl) (Nat.le_of_ble_eq_true rfl) ?_
  refine W.eq (g2 := F0 m 1090 ls [.int (a_count (xs 1)), .int (a_count (xs 1))]) rfl ?_
  refine lv_icmp_eq (tgt := 1095) hx hb d_law_1090 (by decide) (fun _ => ?_) (fun hc => absurd rfl hc)
  exact law_tail l Z hr hX hbl hS (Nat.le_of_ble_eq_true rfl) (Nat.le_of_ble_eq_true rfl) (lv_sub hl [4, 0] rfl)
