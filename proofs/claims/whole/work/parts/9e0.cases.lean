/-! THE LAW 5: cases -/
set_option maxHeartbeats 4000000 in
set_option maxRecDepth 100000 in
theorem law_0 {p : Program} {l : Launch} {e : Env} {s : State} {m : MethodId} {below : List Frame} {meth : Method} {c : Code} {H : Heap} {locs : List Loc} {cells slt : Nat} {Q : State → Prop} {ls : Array Slot} {dC : Nat → ClassId} {dI : Nat → Nat → Nat} {ad : Nat → Nat → Nat} {nz : Value} {Aa : Nat → ClassId} {b L i : Nat} {xs : Nat → Int32} {σ : Sg} (C : RX p s m #[Value.ref b] c cL_law 4 R_law dC dI ad nz Aa (tyS Aa) prsA (fun q : Nat => s.heap.size ≤ q)) (hX : va_X b L xs s s.heap) (hbl : b < s.heap.size) (hL : L ≤ 3072) (hi6 : i + 6 ≤ L) (hcs : cells ≤ room_1.cells ∧ slt ≤ room_1.slots) (hl : lv_has ls 4 (lvL ad b i)) (hi : INV σ) (hok : okS σ) (hP : va_P (dC, dI) scl (wl ad Aa prsA σ) H) (hS : va_S (fun q : Nat => s.heap.size ≤ q) s.heap H locs) (hN : NXT p l e s m b below meth c cells slt Q dC dI ad Aa ls) :
    W p l e room_1 s m #[Value.ref b] below meth c H locs cells slt Q (F0 m 152 ls []) := by
  have hx := C.1
  have hb := C.2.1
  have hbA : ¬ (fun q : Nat => s.heap.size ≤ q) b := Nat.not_le.mpr hbl
  have hR : 62 ≤ room_1.frames ∧ 6200 ≤ room_1.locals := ⟨(Nat.le_of_ble_eq_true rfl), (Nat.le_of_ble_eq_true rfl)⟩
  obtain ⟨x, s1, s2, h1, h2, hi2⟩ := pair_i (p_set _ _ _ : PAIR mX8_set mX9_set [vi (xs (i + 1)).toInt, vi (xs (i + 2)).toInt, vi (xs (i + 3)).toInt]) hi ⟨_, rfl, by decide⟩
  refine lv_aload_n hx hb dL_law_152 rfl (lv_at hl 2 rfl) ?_
  refine arg_ld (j := 1) hx hb hl hX hbl hbA hS hL (by omega) (by decide) dL_law_153 dL_law_154 dL_law_155 dL_law_156 dL_law_157 ?_
  refine arg_ld (j := 2) hx hb hl hX hbl hbA hS hL (by omega) (by decide) dL_law_158 dL_law_159 dL_law_160 dL_law_161 dL_law_162 ?_
  refine arg_ld (j := 3) hx hb hl hX hbl hbA hS hL (by omega) (by decide) dL_law_163 dL_law_164 dL_law_165 dL_law_166 dL_law_167 ?_
  refine rm_i (as := [vi (xs (i + 1)).toInt, vi (xs (i + 2)).toInt, vi (xs (i + 3)).toInt]) (n := 3) (rest := []) C ⟨gvX8_set, (gws_2 207 (by decide +kernel) (by decide +kernel)), by decide +kernel, by decide +kernel, rfl⟩ h1 (fun v hv => by simp only [List.mem_cons, List.not_mem_nil, or_false] at hv; rcases hv with rfl | rfl | rfl <;> exact r32_t _) hok rfl (Nat.le_of_ble_eq_true rfl) hP hS hR hcs hl.1 (Nat.le_of_ble_eq_true rfl) dL_law_168 (fun H locs hok hP hS => ?_)
  refine lv_aload_n hx hb dL_law_171 rfl (lv_at hl 1 rfl) ?_
  refine arg_ld (j := 1) hx hb hl hX hbl hbA hS hL (by omega) (by decide) dL_law_172 dL_law_173 dL_law_174 dL_law_175 dL_law_176 ?_
  refine arg_ld (j := 2) hx hb hl hX hbl hbA hS hL (by omega) (by decide) dL_law_177 dL_law_178 dL_law_179 dL_law_180 dL_law_181 ?_
  refine arg_ld (j := 3) hx hb hl hX hbl hbA hS hL (by omega) (by decide) dL_law_182 dL_law_183 dL_law_184 dL_law_185 dL_law_186 ?_
  refine rm_i (as := [vi (xs (i + 1)).toInt, vi (xs (i + 2)).toInt, vi (xs (i + 3)).toInt]) (n := 3) (rest := [.int (Int32.ofInt x)]) C ⟨gvX9_set, (gws_5 65 (by decide +kernel) (by decide +kernel)), by decide +kernel, by decide +kernel, rfl⟩ h2 (fun v hv => by simp only [List.mem_cons, List.not_mem_nil, or_false] at hv; rcases hv with rfl | rfl | rfl <;> exact r32_t _) hok rfl (Nat.le_of_ble_eq_true rfl) hP hS hR hcs hl.1 (Nat.le_of_ble_eq_true rfl) dL_law_187 (fun H locs hok hP hS => ?_)
  exact lv_icmp_eq (tgt := 961) hx hb dL_law_190 (by decide) (fun _ => hN s2 H locs hi2 hok hP hS) (fun c9 => absurd rfl c9)
set_option maxHeartbeats 4000000 in
set_option maxRecDepth 100000 in
theorem law_1 {p : Program} {l : Launch} {e : Env} {s : State} {m : MethodId} {below : List Frame} {meth : Method} {c : Code} {H : Heap} {locs : List Loc} {cells slt : Nat} {Q : State → Prop} {ls : Array Slot} {dC : Nat → ClassId} {dI : Nat → Nat → Nat} {ad : Nat → Nat → Nat} {nz : Value} {Aa : Nat → ClassId} {b L i : Nat} {xs : Nat → Int32} {σ : Sg} (C : RX p s m #[Value.ref b] c cL_law 4 R_law dC dI ad nz Aa (tyS Aa) prsA (fun q : Nat => s.heap.size ≤ q)) (hX : va_X b L xs s s.heap) (hbl : b < s.heap.size) (hL : L ≤ 3072) (hi6 : i + 6 ≤ L) (hcs : cells ≤ room_1.cells ∧ slt ≤ room_1.slots) (hl : lv_has ls 4 (lvL ad b i)) (hi : INV σ) (hok : okS σ) (hP : va_P (dC, dI) scl (wl ad Aa prsA σ) H) (hS : va_S (fun q : Nat => s.heap.size ≤ q) s.heap H locs) (hN : NXT p l e s m b below meth c cells slt Q dC dI ad Aa ls) :
    W p l e room_1 s m #[Value.ref b] below meth c H locs cells slt Q (F0 m 195 ls []) := by
  have hx := C.1
  have hb := C.2.1
  have hbA : ¬ (fun q : Nat => s.heap.size ≤ q) b := Nat.not_le.mpr hbl
  have hR : 62 ≤ room_1.frames ∧ 6200 ≤ room_1.locals := ⟨(Nat.le_of_ble_eq_true rfl), (Nat.le_of_ble_eq_true rfl)⟩
  obtain ⟨x, s1, s2, h1, h2, hi2⟩ := pair_i (p_car _ _ _ : PAIR mX8_car mX9_car [vi (xs (i + 1)).toInt, vi (xs (i + 2)).toInt, vi (xs (i + 3)).toInt]) hi ⟨_, rfl, by decide⟩
  refine lv_aload_n hx hb dL_law_195 rfl (lv_at hl 2 rfl) ?_
  refine arg_ld (j := 1) hx hb hl hX hbl hbA hS hL (by omega) (by decide) dL_law_196 dL_law_197 dL_law_198 dL_law_199 dL_law_200 ?_
  refine arg_ld (j := 2) hx hb hl hX hbl hbA hS hL (by omega) (by decide) dL_law_201 dL_law_202 dL_law_203 dL_law_204 dL_law_205 ?_
  refine arg_ld (j := 3) hx hb hl hX hbl hbA hS hL (by omega) (by decide) dL_law_206 dL_law_207 dL_law_208 dL_law_209 dL_law_210 ?_
  refine rm_i (as := [vi (xs (i + 1)).toInt, vi (xs (i + 2)).toInt, vi (xs (i + 3)).toInt]) (n := 3) (rest := []) C ⟨gvX8_car, (gws_2 226 (by decide +kernel) (by decide +kernel)), by decide +kernel, by decide +kernel, rfl⟩ h1 (fun v hv => by simp only [List.mem_cons, List.not_mem_nil, or_false] at hv; rcases hv with rfl | rfl | rfl <;> exact r32_t _) hok rfl (Nat.le_of_ble_eq_true rfl) hP hS hR hcs hl.1 (Nat.le_of_ble_eq_true rfl) dL_law_211 (fun H locs hok hP hS => ?_)
  refine lv_aload_n hx hb dL_law_214 rfl (lv_at hl 1 rfl) ?_
  refine arg_ld (j := 1) hx hb hl hX hbl hbA hS hL (by omega) (by decide) dL_law_215 dL_law_216 dL_law_217 dL_law_218 dL_law_219 ?_
  refine arg_ld (j := 2) hx hb hl hX hbl hbA hS hL (by omega) (by decide) dL_law_220 dL_law_221 dL_law_222 dL_law_223 dL_law_224 ?_
  refine arg_ld (j := 3) hx hb hl hX hbl hbA hS hL (by omega) (by decide) dL_law_225 dL_law_226 dL_law_227 dL_law_228 dL_law_229 ?_
  refine rm_i (as := [vi (xs (i + 1)).toInt, vi (xs (i + 2)).toInt, vi (xs (i + 3)).toInt]) (n := 3) (rest := [.int (Int32.ofInt x)]) C ⟨gvX9_car, (gws_5 80 (by decide +kernel) (by decide +kernel)), by decide +kernel, by decide +kernel, rfl⟩ h2 (fun v hv => by simp only [List.mem_cons, List.not_mem_nil, or_false] at hv; rcases hv with rfl | rfl | rfl <;> exact r32_t _) hok rfl (Nat.le_of_ble_eq_true rfl) hP hS hR hcs hl.1 (Nat.le_of_ble_eq_true rfl) dL_law_230 (fun H locs hok hP hS => ?_)
  exact lv_icmp_eq (tgt := 961) hx hb dL_law_233 (by decide) (fun _ => hN s2 H locs hi2 hok hP hS) (fun c9 => absurd rfl c9)
set_option maxHeartbeats 4000000 in
set_option maxRecDepth 100000 in
theorem law_2 {p : Program} {l : Launch} {e : Env} {s : State} {m : MethodId} {below : List Frame} {meth : Method} {c : Code} {H : Heap} {locs : List Loc} {cells slt : Nat} {Q : State → Prop} {ls : Array Slot} {dC : Nat → ClassId} {dI : Nat → Nat → Nat} {ad : Nat → Nat → Nat} {nz : Value} {Aa : Nat → ClassId} {b L i : Nat} {xs : Nat → Int32} {σ : Sg} (C : RX p s m #[Value.ref b] c cL_law 4 R_law dC dI ad nz Aa (tyS Aa) prsA (fun q : Nat => s.heap.size ≤ q)) (hX : va_X b L xs s s.heap) (hbl : b < s.heap.size) (hL : L ≤ 3072) (hi6 : i + 6 ≤ L) (hcs : cells ≤ room_1.cells ∧ slt ≤ room_1.slots) (hl : lv_has ls 4 (lvL ad b i)) (hi : INV σ) (hok : okS σ) (hP : va_P (dC, dI) scl (wl ad Aa prsA σ) H) (hS : va_S (fun q : Nat => s.heap.size ≤ q) s.heap H locs) (hN : NXT p l e s m b below meth c cells slt Q dC dI ad Aa ls) :
    W p l e room_1 s m #[Value.ref b] below meth c H locs cells slt Q (F0 m 238 ls []) := by
  have hx := C.1
  have hb := C.2.1
  have hbA : ¬ (fun q : Nat => s.heap.size ≤ q) b := Nat.not_le.mpr hbl
  have hR : 62 ≤ room_1.frames ∧ 6200 ≤ room_1.locals := ⟨(Nat.le_of_ble_eq_true rfl), (Nat.le_of_ble_eq_true rfl)⟩
  obtain ⟨x, s1, s2, h1, h2, hi2⟩ := pair_i (p_told _ _ : PAIR mX8_told mX9_told [vi (xs (i + 1)).toInt, vi (xs (i + 2)).toInt]) hi ⟨_, rfl, by decide⟩
  refine lv_aload_n hx hb dL_law_238 rfl (lv_at hl 2 rfl) ?_
  refine arg_ld (j := 1) hx hb hl hX hbl hbA hS hL (by omega) (by decide) dL_law_239 dL_law_240 dL_law_241 dL_law_242 dL_law_243 ?_
  refine arg_ld (j := 2) hx hb hl hX hbl hbA hS hL (by omega) (by decide) dL_law_244 dL_law_245 dL_law_246 dL_law_247 dL_law_248 ?_
  refine rm_i (as := [vi (xs (i + 1)).toInt, vi (xs (i + 2)).toInt]) (n := 2) (rest := []) C ⟨gvX8_told, (gws_2 239 (by decide +kernel) (by decide +kernel)), by decide +kernel, by decide +kernel, rfl⟩ h1 (fun v hv => by simp only [List.mem_cons, List.not_mem_nil, or_false] at hv; rcases hv with rfl | rfl <;> exact r32_t _) hok rfl (Nat.le_of_ble_eq_true rfl) hP hS hR hcs hl.1 (Nat.le_of_ble_eq_true rfl) dL_law_249 (fun H locs hok hP hS => ?_)
  refine lv_aload_n hx hb dL_law_252 rfl (lv_at hl 1 rfl) ?_
  refine arg_ld (j := 1) hx hb hl hX hbl hbA hS hL (by omega) (by decide) dL_law_253 dL_law_254 dL_law_255 dL_law_256 dL_law_257 ?_
  refine arg_ld (j := 2) hx hb hl hX hbl hbA hS hL (by omega) (by decide) dL_law_258 dL_law_259 dL_law_260 dL_law_261 dL_law_262 ?_
  refine rm_i (as := [vi (xs (i + 1)).toInt, vi (xs (i + 2)).toInt]) (n := 2) (rest := [.int (Int32.ofInt x)]) C ⟨gvX9_told, (gws_5 87 (by decide +kernel) (by decide +kernel)), by decide +kernel, by decide +kernel, rfl⟩ h2 (fun v hv => by simp only [List.mem_cons, List.not_mem_nil, or_false] at hv; rcases hv with rfl | rfl <;> exact r32_t _) hok rfl (Nat.le_of_ble_eq_true rfl) hP hS hR hcs hl.1 (Nat.le_of_ble_eq_true rfl) dL_law_263 (fun H locs hok hP hS => ?_)
  exact lv_icmp_eq (tgt := 961) hx hb dL_law_266 (by decide) (fun _ => hN s2 H locs hi2 hok hP hS) (fun c9 => absurd rfl c9)
set_option maxHeartbeats 4000000 in
set_option maxRecDepth 100000 in
theorem law_3 {p : Program} {l : Launch} {e : Env} {s : State} {m : MethodId} {below : List Frame} {meth : Method} {c : Code} {H : Heap} {locs : List Loc} {cells slt : Nat} {Q : State → Prop} {ls : Array Slot} {dC : Nat → ClassId} {dI : Nat → Nat → Nat} {ad : Nat → Nat → Nat} {nz : Value} {Aa : Nat → ClassId} {b L i : Nat} {xs : Nat → Int32} {σ : Sg} (C : RX p s m #[Value.ref b] c cL_law 4 R_law dC dI ad nz Aa (tyS Aa) prsA (fun q : Nat => s.heap.size ≤ q)) (hX : va_X b L xs s s.heap) (hbl : b < s.heap.size) (hL : L ≤ 3072) (hi6 : i + 6 ≤ L) (hcs : cells ≤ room_1.cells ∧ slt ≤ room_1.slots) (hl : lv_has ls 4 (lvL ad b i)) (hi : INV σ) (hok : okS σ) (hP : va_P (dC, dI) scl (wl ad Aa prsA σ) H) (hS : va_S (fun q : Nat => s.heap.size ≤ q) s.heap H locs) (hN : NXT p l e s m b below meth c cells slt Q dC dI ad Aa ls) :
    W p l e room_1 s m #[Value.ref b] below meth c H locs cells slt Q (F0 m 271 ls []) := by
  have hx := C.1
  have hb := C.2.1
  have hbA : ¬ (fun q : Nat => s.heap.size ≤ q) b := Nat.not_le.mpr hbl
  have hR : 62 ≤ room_1.frames ∧ 6200 ≤ room_1.locals := ⟨(Nat.le_of_ble_eq_true rfl), (Nat.le_of_ble_eq_true rfl)⟩
  obtain ⟨x, s1, s2, h1, h2, hi2⟩ := pair_i (p_feed _ : PAIR mX8_feed mX9_feed [vi (xs (i + 1)).toInt]) hi ⟨_, rfl, by decide⟩
  refine lv_aload_n hx hb dL_law_271 rfl (lv_at hl 2 rfl) ?_
  refine arg_ld (j := 1) hx hb hl hX hbl hbA hS hL (by omega) (by decide) dL_law_272 dL_law_273 dL_law_274 dL_law_275 dL_law_276 ?_
  refine rm_i (as := [vi (xs (i + 1)).toInt]) (n := 1) (rest := []) C ⟨gvX8_feed, (gws_3 46 (by decide +kernel) (by decide +kernel)), by decide +kernel, by decide +kernel, rfl⟩ h1 (fun v hv => by simp only [List.mem_cons, List.not_mem_nil, or_false] at hv; rcases hv with rfl <;> exact r32_t _) hok rfl (Nat.le_of_ble_eq_true rfl) hP hS hR hcs hl.1 (Nat.le_of_ble_eq_true rfl) dL_law_277 (fun H locs hok hP hS => ?_)
  refine lv_aload_n hx hb dL_law_280 rfl (lv_at hl 1 rfl) ?_
  refine arg_ld (j := 1) hx hb hl hX hbl hbA hS hL (by omega) (by decide) dL_law_281 dL_law_282 dL_law_283 dL_law_284 dL_law_285 ?_
  refine rm_i (as := [vi (xs (i + 1)).toInt]) (n := 1) (rest := [.int (Int32.ofInt x)]) C ⟨gvX9_feed, (gws_5 185 (by decide +kernel) (by decide +kernel)), by decide +kernel, by decide +kernel, rfl⟩ h2 (fun v hv => by simp only [List.mem_cons, List.not_mem_nil, or_false] at hv; rcases hv with rfl <;> exact r32_t _) hok rfl (Nat.le_of_ble_eq_true rfl) hP hS hR hcs hl.1 (Nat.le_of_ble_eq_true rfl) dL_law_286 (fun H locs hok hP hS => ?_)
  exact lv_icmp_eq (tgt := 961) hx hb dL_law_289 (by decide) (fun _ => hN s2 H locs hi2 hok hP hS) (fun c9 => absurd rfl c9)
set_option maxHeartbeats 4000000 in
set_option maxRecDepth 100000 in
theorem law_4 {p : Program} {l : Launch} {e : Env} {s : State} {m : MethodId} {below : List Frame} {meth : Method} {c : Code} {H : Heap} {locs : List Loc} {cells slt : Nat} {Q : State → Prop} {ls : Array Slot} {dC : Nat → ClassId} {dI : Nat → Nat → Nat} {ad : Nat → Nat → Nat} {nz : Value} {Aa : Nat → ClassId} {b L i : Nat} {xs : Nat → Int32} {σ : Sg} (C : RX p s m #[Value.ref b] c cL_law 4 R_law dC dI ad nz Aa (tyS Aa) prsA (fun q : Nat => s.heap.size ≤ q)) (hX : va_X b L xs s s.heap) (hbl : b < s.heap.size) (hL : L ≤ 3072) (hi6 : i + 6 ≤ L) (hcs : cells ≤ room_1.cells ∧ slt ≤ room_1.slots) (hl : lv_has ls 4 (lvL ad b i)) (hi : INV σ) (hok : okS σ) (hP : va_P (dC, dI) scl (wl ad Aa prsA σ) H) (hS : va_S (fun q : Nat => s.heap.size ≤ q) s.heap H locs) (hN : NXT p l e s m b below meth c cells slt Q dC dI ad Aa ls) :
    W p l e room_1 s m #[Value.ref b] below meth c H locs cells slt Q (F0 m 294 ls []) := by
  have hx := C.1
  have hb := C.2.1
  have hbA : ¬ (fun q : Nat => s.heap.size ≤ q) b := Nat.not_le.mpr hbl
  have hR : 62 ≤ room_1.frames ∧ 6200 ≤ room_1.locals := ⟨(Nat.le_of_ble_eq_true rfl), (Nat.le_of_ble_eq_true rfl)⟩
  obtain ⟨x, s1, s2, h1, h2, hi2⟩ := pair_i (p_text  : PAIR mX8_text mX9_text []) hi ⟨_, rfl, by decide⟩
  refine lv_aload_n hx hb dL_law_294 rfl (lv_at hl 2 rfl) ?_
  refine rm_i (as := []) (n := 0) (rest := []) C ⟨gvX8_text, (gws_3 55 (by decide +kernel) (by decide +kernel)), by decide +kernel, by decide +kernel, rfl⟩ h1 (fun v hv => by cases hv) hok rfl (Nat.le_of_ble_eq_true rfl) hP hS hR hcs hl.1 (Nat.le_of_ble_eq_true rfl) dL_law_295 (fun H locs hok hP hS => ?_)
  refine lv_aload_n hx hb dL_law_298 rfl (lv_at hl 1 rfl) ?_
  refine rm_i (as := []) (n := 0) (rest := [.int (Int32.ofInt x)]) C ⟨gvX9_text, (gws_5 190 (by decide +kernel) (by decide +kernel)), by decide +kernel, by decide +kernel, rfl⟩ h2 (fun v hv => by cases hv) hok rfl (Nat.le_of_ble_eq_true rfl) hP hS hR hcs hl.1 (Nat.le_of_ble_eq_true rfl) dL_law_299 (fun H locs hok hP hS => ?_)
  exact lv_icmp_eq (tgt := 961) hx hb dL_law_302 (by decide) (fun _ => hN s2 H locs hi2 hok hP hS) (fun c9 => absurd rfl c9)
set_option maxHeartbeats 4000000 in
set_option maxRecDepth 100000 in
theorem law_5 {p : Program} {l : Launch} {e : Env} {s : State} {m : MethodId} {below : List Frame} {meth : Method} {c : Code} {H : Heap} {locs : List Loc} {cells slt : Nat} {Q : State → Prop} {ls : Array Slot} {dC : Nat → ClassId} {dI : Nat → Nat → Nat} {ad : Nat → Nat → Nat} {nz : Value} {Aa : Nat → ClassId} {b L i : Nat} {xs : Nat → Int32} {σ : Sg} (C : RX p s m #[Value.ref b] c cL_law 4 R_law dC dI ad nz Aa (tyS Aa) prsA (fun q : Nat => s.heap.size ≤ q)) (hX : va_X b L xs s s.heap) (hbl : b < s.heap.size) (hL : L ≤ 3072) (hi6 : i + 6 ≤ L) (hcs : cells ≤ room_1.cells ∧ slt ≤ room_1.slots) (hl : lv_has ls 4 (lvL ad b i)) (hi : INV σ) (hok : okS σ) (hP : va_P (dC, dI) scl (wl ad Aa prsA σ) H) (hS : va_S (fun q : Nat => s.heap.size ≤ q) s.heap H locs) (hN : NXT p l e s m b below meth c cells slt Q dC dI ad Aa ls) :
    W p l e room_1 s m #[Value.ref b] below meth c H locs cells slt Q (F0 m 307 ls []) := by
  have hx := C.1
  have hb := C.2.1
  have hbA : ¬ (fun q : Nat => s.heap.size ≤ q) b := Nat.not_le.mpr hbl
  have hR : 62 ≤ room_1.frames ∧ 6200 ≤ room_1.locals := ⟨(Nat.le_of_ble_eq_true rfl), (Nat.le_of_ble_eq_true rfl)⟩
  obtain ⟨x, s1, s2, h1, h2, hi2⟩ := pair_i (p_force _ : PAIR mX8_force mX9_force [vi (xs (i + 1)).toInt]) hi ⟨_, rfl, by decide⟩
  refine lv_aload_n hx hb dL_law_307 rfl (lv_at hl 2 rfl) ?_
  refine arg_ld (j := 1) hx hb hl hX hbl hbA hS hL (by omega) (by decide) dL_law_308 dL_law_309 dL_law_310 dL_law_311 dL_law_312 ?_
  refine rm_i (as := [vi (xs (i + 1)).toInt]) (n := 1) (rest := []) C ⟨gvX8_force, (gws_3 64 (by decide +kernel) (by decide +kernel)), by decide +kernel, by decide +kernel, rfl⟩ h1 (fun v hv => by simp only [List.mem_cons, List.not_mem_nil, or_false] at hv; rcases hv with rfl <;> exact r32_t _) hok rfl (Nat.le_of_ble_eq_true rfl) hP hS hR hcs hl.1 (Nat.le_of_ble_eq_true rfl) dL_law_313 (fun H locs hok hP hS => ?_)
  refine lv_aload_n hx hb dL_law_316 rfl (lv_at hl 1 rfl) ?_
  refine arg_ld (j := 1) hx hb hl hX hbl hbA hS hL (by omega) (by decide) dL_law_317 dL_law_318 dL_law_319 dL_law_320 dL_law_321 ?_
  refine rm_i (as := [vi (xs (i + 1)).toInt]) (n := 1) (rest := [.int (Int32.ofInt x)]) C ⟨gvX9_force, (gws_5 194 (by decide +kernel) (by decide +kernel)), by decide +kernel, by decide +kernel, rfl⟩ h2 (fun v hv => by simp only [List.mem_cons, List.not_mem_nil, or_false] at hv; rcases hv with rfl <;> exact r32_t _) hok rfl (Nat.le_of_ble_eq_true rfl) hP hS hR hcs hl.1 (Nat.le_of_ble_eq_true rfl) dL_law_322 (fun H locs hok hP hS => ?_)
  exact lv_icmp_eq (tgt := 961) hx hb dL_law_325 (by decide) (fun _ => hN s2 H locs hi2 hok hP hS) (fun c9 => absurd rfl c9)
set_option maxHeartbeats 4000000 in
set_option maxRecDepth 100000 in
theorem law_6 {p : Program} {l : Launch} {e : Env} {s : State} {m : MethodId} {below : List Frame} {meth : Method} {c : Code} {H : Heap} {locs : List Loc} {cells slt : Nat} {Q : State → Prop} {ls : Array Slot} {dC : Nat → ClassId} {dI : Nat → Nat → Nat} {ad : Nat → Nat → Nat} {nz : Value} {Aa : Nat → ClassId} {b L i : Nat} {xs : Nat → Int32} {σ : Sg} (C : RX p s m #[Value.ref b] c cL_law 4 R_law dC dI ad nz Aa (tyS Aa) prsA (fun q : Nat => s.heap.size ≤ q)) (hX : va_X b L xs s s.heap) (hbl : b < s.heap.size) (hL : L ≤ 3072) (hi6 : i + 6 ≤ L) (hcs : cells ≤ room_1.cells ∧ slt ≤ room_1.slots) (hl : lv_has ls 4 (lvL ad b i)) (hi : INV σ) (hok : okS σ) (hP : va_P (dC, dI) scl (wl ad Aa prsA σ) H) (hS : va_S (fun q : Nat => s.heap.size ≤ q) s.heap H locs) (hN : NXT p l e s m b below meth c cells slt Q dC dI ad Aa ls) :
    W p l e room_1 s m #[Value.ref b] below meth c H locs cells slt Q (F0 m 330 ls []) := by
  have hx := C.1
  have hb := C.2.1
  have hbA : ¬ (fun q : Nat => s.heap.size ≤ q) b := Nat.not_le.mpr hbl
  have hR : 62 ≤ room_1.frames ∧ 6200 ≤ room_1.locals := ⟨(Nat.le_of_ble_eq_true rfl), (Nat.le_of_ble_eq_true rfl)⟩
  obtain ⟨x, s1, s2, h1, h2, hi2⟩ := pair_i (p_times _ _ : PAIR mX8_times mX9_times [vi (xs (i + 1)).toInt, vi (xs (i + 2)).toInt]) hi ⟨_, rfl, by decide⟩
  refine lv_aload_n hx hb dL_law_330 rfl (lv_at hl 2 rfl) ?_
  refine arg_ld (j := 1) hx hb hl hX hbl hbA hS hL (by omega) (by decide) dL_law_331 dL_law_332 dL_law_333 dL_law_334 dL_law_335 ?_
  refine arg_ld (j := 2) hx hb hl hX hbl hbA hS hL (by omega) (by decide) dL_law_336 dL_law_337 dL_law_338 dL_law_339 dL_law_340 ?_
  refine rm_i (as := [vi (xs (i + 1)).toInt, vi (xs (i + 2)).toInt]) (n := 2) (rest := []) C ⟨gvX8_times, (gws_3 77 (by decide +kernel) (by decide +kernel)), by decide +kernel, by decide +kernel, rfl⟩ h1 (fun v hv => by simp only [List.mem_cons, List.not_mem_nil, or_false] at hv; rcases hv with rfl | rfl <;> exact r32_t _) hok rfl (Nat.le_of_ble_eq_true rfl) hP hS hR hcs hl.1 (Nat.le_of_ble_eq_true rfl) dL_law_341 (fun H locs hok hP hS => ?_)
  refine lv_aload_n hx hb dL_law_344 rfl (lv_at hl 1 rfl) ?_
  refine arg_ld (j := 1) hx hb hl hX hbl hbA hS hL (by omega) (by decide) dL_law_345 dL_law_346 dL_law_347 dL_law_348 dL_law_349 ?_
  refine arg_ld (j := 2) hx hb hl hX hbl hbA hS hL (by omega) (by decide) dL_law_350 dL_law_351 dL_law_352 dL_law_353 dL_law_354 ?_
  refine rm_i (as := [vi (xs (i + 1)).toInt, vi (xs (i + 2)).toInt]) (n := 2) (rest := [.int (Int32.ofInt x)]) C ⟨gvX9_times, (gws_5 198 (by decide +kernel) (by decide +kernel)), by decide +kernel, by decide +kernel, rfl⟩ h2 (fun v hv => by simp only [List.mem_cons, List.not_mem_nil, or_false] at hv; rcases hv with rfl | rfl <;> exact r32_t _) hok rfl (Nat.le_of_ble_eq_true rfl) hP hS hR hcs hl.1 (Nat.le_of_ble_eq_true rfl) dL_law_355 (fun H locs hok hP hS => ?_)
  exact lv_icmp_eq (tgt := 961) hx hb dL_law_358 (by decide) (fun _ => hN s2 H locs hi2 hok hP hS) (fun c9 => absurd rfl c9)
set_option maxHeartbeats 4000000 in
set_option maxRecDepth 100000 in
theorem law_7 {p : Program} {l : Launch} {e : Env} {s : State} {m : MethodId} {below : List Frame} {meth : Method} {c : Code} {H : Heap} {locs : List Loc} {cells slt : Nat} {Q : State → Prop} {ls : Array Slot} {dC : Nat → ClassId} {dI : Nat → Nat → Nat} {ad : Nat → Nat → Nat} {nz : Value} {Aa : Nat → ClassId} {b L i : Nat} {xs : Nat → Int32} {σ : Sg} (C : RX p s m #[Value.ref b] c cL_law 4 R_law dC dI ad nz Aa (tyS Aa) prsA (fun q : Nat => s.heap.size ≤ q)) (hX : va_X b L xs s s.heap) (hbl : b < s.heap.size) (hL : L ≤ 3072) (hi6 : i + 6 ≤ L) (hcs : cells ≤ room_1.cells ∧ slt ≤ room_1.slots) (hl : lv_has ls 4 (lvL ad b i)) (hi : INV σ) (hok : okS σ) (hP : va_P (dC, dI) scl (wl ad Aa prsA σ) H) (hS : va_S (fun q : Nat => s.heap.size ≤ q) s.heap H locs) (hN : NXT p l e s m b below meth c cells slt Q dC dI ad Aa ls) :
    W p l e room_1 s m #[Value.ref b] below meth c H locs cells slt Q (F0 m 363 ls []) := by
  have hx := C.1
  have hb := C.2.1
  have hbA : ¬ (fun q : Nat => s.heap.size ≤ q) b := Nat.not_le.mpr hbl
  have hR : 62 ≤ room_1.frames ∧ 6200 ≤ room_1.locals := ⟨(Nat.le_of_ble_eq_true rfl), (Nat.le_of_ble_eq_true rfl)⟩
  obtain ⟨x, s1, s2, h1, h2, hi2⟩ := pair_i (p_pump _ _ _ : PAIR mX8_pump mX9_pump [vi (xs (i + 1)).toInt, vi (xs (i + 2)).toInt, vi (xs (i + 3)).toInt]) hi ⟨_, rfl, by decide⟩
  refine lv_aload_n hx hb dL_law_363 rfl (lv_at hl 2 rfl) ?_
  refine arg_ld (j := 1) hx hb hl hX hbl hbA hS hL (by omega) (by decide) dL_law_364 dL_law_365 dL_law_366 dL_law_367 dL_law_368 ?_
  refine arg_ld (j := 2) hx hb hl hX hbl hbA hS hL (by omega) (by decide) dL_law_369 dL_law_370 dL_law_371 dL_law_372 dL_law_373 ?_
  refine arg_ld (j := 3) hx hb hl hX hbl hbA hS hL (by omega) (by decide) dL_law_374 dL_law_375 dL_law_376 dL_law_377 dL_law_378 ?_
  refine rm_i (as := [vi (xs (i + 1)).toInt, vi (xs (i + 2)).toInt, vi (xs (i + 3)).toInt]) (n := 3) (rest := []) C ⟨gvX8_pump, (gws_3 149 (by decide +kernel) (by decide +kernel)), by decide +kernel, by decide +kernel, rfl⟩ h1 (fun v hv => by simp only [List.mem_cons, List.not_mem_nil, or_false] at hv; rcases hv with rfl | rfl | rfl <;> exact r32_t _) hok rfl (Nat.le_of_ble_eq_true rfl) hP hS hR hcs hl.1 (Nat.le_of_ble_eq_true rfl) dL_law_379 (fun H locs hok hP hS => ?_)
  refine lv_aload_n hx hb dL_law_382 rfl (lv_at hl 1 rfl) ?_
  refine arg_ld (j := 1) hx hb hl hX hbl hbA hS hL (by omega) (by decide) dL_law_383 dL_law_384 dL_law_385 dL_law_386 dL_law_387 ?_
  refine arg_ld (j := 2) hx hb hl hX hbl hbA hS hL (by omega) (by decide) dL_law_388 dL_law_389 dL_law_390 dL_law_391 dL_law_392 ?_
  refine arg_ld (j := 3) hx hb hl hX hbl hbA hS hL (by omega) (by decide) dL_law_393 dL_law_394 dL_law_395 dL_law_396 dL_law_397 ?_
  refine rm_i (as := [vi (xs (i + 1)).toInt, vi (xs (i + 2)).toInt, vi (xs (i + 3)).toInt]) (n := 3) (rest := [.int (Int32.ofInt x)]) C ⟨gvX9_pump, (gws_5 226 (by decide +kernel) (by decide +kernel)), by decide +kernel, by decide +kernel, rfl⟩ h2 (fun v hv => by simp only [List.mem_cons, List.not_mem_nil, or_false] at hv; rcases hv with rfl | rfl | rfl <;> exact r32_t _) hok rfl (Nat.le_of_ble_eq_true rfl) hP hS hR hcs hl.1 (Nat.le_of_ble_eq_true rfl) dL_law_398 (fun H locs hok hP hS => ?_)
  exact lv_icmp_eq (tgt := 961) hx hb dL_law_401 (by decide) (fun _ => hN s2 H locs hi2 hok hP hS) (fun c9 => absurd rfl c9)
set_option maxHeartbeats 4000000 in
set_option maxRecDepth 100000 in
theorem law_8 {p : Program} {l : Launch} {e : Env} {s : State} {m : MethodId} {below : List Frame} {meth : Method} {c : Code} {H : Heap} {locs : List Loc} {cells slt : Nat} {Q : State → Prop} {ls : Array Slot} {dC : Nat → ClassId} {dI : Nat → Nat → Nat} {ad : Nat → Nat → Nat} {nz : Value} {Aa : Nat → ClassId} {b L i : Nat} {xs : Nat → Int32} {σ : Sg} (C : RX p s m #[Value.ref b] c cL_law 4 R_law dC dI ad nz Aa (tyS Aa) prsA (fun q : Nat => s.heap.size ≤ q)) (hX : va_X b L xs s s.heap) (hbl : b < s.heap.size) (hL : L ≤ 3072) (hi6 : i + 6 ≤ L) (hcs : cells ≤ room_1.cells ∧ slt ≤ room_1.slots) (hl : lv_has ls 4 (lvL ad b i)) (hi : INV σ) (hok : okS σ) (hP : va_P (dC, dI) scl (wl ad Aa prsA σ) H) (hS : va_S (fun q : Nat => s.heap.size ≤ q) s.heap H locs) (hN : NXT p l e s m b below meth c cells slt Q dC dI ad Aa ls) :
    W p l e room_1 s m #[Value.ref b] below meth c H locs cells slt Q (F0 m 406 ls []) := by
  have hx := C.1
  have hb := C.2.1
  have hbA : ¬ (fun q : Nat => s.heap.size ≤ q) b := Nat.not_le.mpr hbl
  have hR : 62 ≤ room_1.frames ∧ 6200 ≤ room_1.locals := ⟨(Nat.le_of_ble_eq_true rfl), (Nat.le_of_ble_eq_true rfl)⟩
  obtain ⟨x, s1, s2, h1, h2, hi2⟩ := pair_i (p_all _ : PAIR mX8_all mX9_all [vi (xs (i + 1)).toInt]) hi ⟨_, rfl, by decide⟩
  refine lv_aload_n hx hb dL_law_406 rfl (lv_at hl 2 rfl) ?_
  refine arg_ld (j := 1) hx hb hl hX hbl hbA hS hL (by omega) (by decide) dL_law_407 dL_law_408 dL_law_409 dL_law_410 dL_law_411 ?_
  refine rm_i (as := [vi (xs (i + 1)).toInt]) (n := 1) (rest := []) C ⟨gvX8_all, (gws_3 157 (by decide +kernel) (by decide +kernel)), by decide +kernel, by decide +kernel, rfl⟩ h1 (fun v hv => by simp only [List.mem_cons, List.not_mem_nil, or_false] at hv; rcases hv with rfl <;> exact r32_t _) hok rfl (Nat.le_of_ble_eq_true rfl) hP hS hR hcs hl.1 (Nat.le_of_ble_eq_true rfl) dL_law_412 (fun H locs hok hP hS => ?_)
  refine lv_aload_n hx hb dL_law_415 rfl (lv_at hl 1 rfl) ?_
  refine arg_ld (j := 1) hx hb hl hX hbl hbA hS hL (by omega) (by decide) dL_law_416 dL_law_417 dL_law_418 dL_law_419 dL_law_420 ?_
  refine rm_i (as := [vi (xs (i + 1)).toInt]) (n := 1) (rest := [.int (Int32.ofInt x)]) C ⟨gvX9_all, (gws_5 231 (by decide +kernel) (by decide +kernel)), by decide +kernel, by decide +kernel, rfl⟩ h2 (fun v hv => by simp only [List.mem_cons, List.not_mem_nil, or_false] at hv; rcases hv with rfl <;> exact r32_t _) hok rfl (Nat.le_of_ble_eq_true rfl) hP hS hR hcs hl.1 (Nat.le_of_ble_eq_true rfl) dL_law_421 (fun H locs hok hP hS => ?_)
  exact lv_icmp_eq (tgt := 961) hx hb dL_law_424 (by decide) (fun _ => hN s2 H locs hi2 hok hP hS) (fun c9 => absurd rfl c9)
