section
/-! the law's cases -/
variable {p : Program} {l : Launch} {e : Env} {s : State} {m : MethodId} {below : List Frame} {meth : Method} {c : Code} {H : Heap} {locs : List Loc} {cells slots : Nat} {Q : State → Prop} {E : EE} {ad bd : Nat → Nat} {M N : Mm} {b L : Nat} {xs : Nat → Int32} {ls : Array Slot} {i : Nat}
set_option maxHeartbeats 4000000 in
set_option maxRecDepth 100000 in
theorem lc_setSound (G : LG p s m c E b L xs) (hI : INV M N) (hl : lv_has ls 4 (LV b (ad 0) (bd 0) i)) (hi : i + 4 ≤ L) (hf : cells ≤ room_1.cells ∧ slots ≤ room_1.slots) (hP : va_P E.1 vwCl (wd E gC ad M ++ wd E gM bd N) H) (hD : va_D (Fr s) (wd E gC ad M ++ wd E gM bd N)) (hS : va_S (Fr s) s.heap H locs) (kk : LK p l e s m below meth c cells slots Q E ad bd b ls) : W p l e room_1 s m #[Value.ref b] below meth c H locs cells slots Q (F0 m 136 ls []) := by
  have X := G.1
  refine lv_aload_n X.1 X.2.1 dL_law_136 rfl (lv_at hl 1 rfl) ?_
  refine s_arg (k := 1) G hS hl (by omega) dL_law_137 dL_law_138 dL_law_139 dL_law_140 dL_law_141 ?_
  refine s_arg (k := 2) G hS hl (by omega) dL_law_142 dL_law_143 dL_law_144 dL_law_145 dL_law_146 ?_
  refine s_arg (k := 3) G hS hl (by omega) dL_law_147 dL_law_148 dL_law_149 dL_law_150 dL_law_151 ?_
  refine jC hP hD hS (va_runV (As := [cI (xv xs (i + 1)), cI (xv xs (i + 2)), cI (xv xs (i + 3))]) (rest := []) X (c_X7_setSound gC_wf (o0 := 0) (x1 := xv xs (i + 1)) (x2 := xv xs (i + 2)) (x3 := xv xs (i + 3)) (by decide +kernel) (j_setSound hI xv_in xv_in xv_in)) (cwV 3 X.2.2.2.2 gL_law_X7_setSound rfl rfl rfl (by decide +kernel) ⟨Nat.le_of_ble_eq_true rfl, Nat.le_of_ble_eq_true rfl⟩) ((k_w (P_l hP) (D_l hD)).preV (ci := 7) G.2.1 (by decide +kernel) (by decide) rfl) rfl rfl hl.1 rfl (lv_room (Nat.le_of_ble_eq_true rfl)) dL_law_152 hf) (fun r M1 H locs hq hP hD hS => ?_)
  refine lv_aload_n X.1 X.2.1 dL_law_155 rfl (lv_at hl 2 rfl) ?_
  refine s_arg (k := 1) G hS hl (by omega) dL_law_156 dL_law_157 dL_law_158 dL_law_159 dL_law_160 ?_
  refine s_arg (k := 2) G hS hl (by omega) dL_law_161 dL_law_162 dL_law_163 dL_law_164 dL_law_165 ?_
  refine s_arg (k := 3) G hS hl (by omega) dL_law_166 dL_law_167 dL_law_168 dL_law_169 dL_law_170 ?_
  refine jM hP hD hS (va_runV (As := [cI (xv xs (i + 1)), cI (xv xs (i + 2)), cI (xv xs (i + 3))]) (rest := [cI r]) X (c_X8_setSound gM_wf (o0 := 0) (x1 := xv xs (i + 1)) (x2 := xv xs (i + 2)) (x3 := xv xs (i + 3)) (by decide +kernel) hq) (cwV 3 X.2.2.2.2 gL_law_X8_setSound rfl rfl rfl (by decide +kernel) ⟨Nat.le_of_ble_eq_true rfl, Nat.le_of_ble_eq_true rfl⟩) ((k_w (P_r hP) (D_r hD)).preV (ci := 8) G.2.1 (by decide +kernel) (by decide) rfl) rfl rfl hl.1 rfl (lv_room (Nat.le_of_ble_eq_true rfl)) dL_law_171 hf) (fun r2 N1 H locs hz hP hD hS => ?_)
  obtain ⟨rfl, hI⟩ := hz
  refine lv_icmp_eq (tgt := 654) X.1 X.2.1 dL_law_174 (by decide) (fun _ => ?_) (fun hne => absurd rfl hne)
  exact kk M1 N1 H locs hI hP hD hS
set_option maxHeartbeats 4000000 in
set_option maxRecDepth 100000 in
theorem lc_setHands (G : LG p s m c E b L xs) (hI : INV M N) (hl : lv_has ls 4 (LV b (ad 0) (bd 0) i)) (hi : i + 4 ≤ L) (hf : cells ≤ room_1.cells ∧ slots ≤ room_1.slots) (hP : va_P E.1 vwCl (wd E gC ad M ++ wd E gM bd N) H) (hD : va_D (Fr s) (wd E gC ad M ++ wd E gM bd N)) (hS : va_S (Fr s) s.heap H locs) (kk : LK p l e s m below meth c cells slots Q E ad bd b ls) : W p l e room_1 s m #[Value.ref b] below meth c H locs cells slots Q (F0 m 179 ls []) := by
  have X := G.1
  refine lv_aload_n X.1 X.2.1 dL_law_179 rfl (lv_at hl 1 rfl) ?_
  refine s_arg (k := 1) G hS hl (by omega) dL_law_180 dL_law_181 dL_law_182 dL_law_183 dL_law_184 ?_
  refine jC hP hD hS (va_runV (As := [cI (xv xs (i + 1))]) (rest := []) X (c_X7_setHands gC_wf (o0 := 0) (x1 := xv xs (i + 1)) (by decide +kernel) (j_setHands hI xv_in)) (cwV 1 X.2.2.2.2 gL_law_X7_setHands rfl rfl rfl (by decide +kernel) ⟨Nat.le_of_ble_eq_true rfl, Nat.le_of_ble_eq_true rfl⟩) ((k_w (P_l hP) (D_l hD)).preV (ci := 7) G.2.1 (by decide +kernel) (by decide) rfl) rfl rfl hl.1 rfl (lv_room (Nat.le_of_ble_eq_true rfl)) dL_law_185 hf) (fun r M1 H locs hq hP hD hS => ?_)
  refine lv_aload_n X.1 X.2.1 dL_law_188 rfl (lv_at hl 2 rfl) ?_
  refine s_arg (k := 1) G hS hl (by omega) dL_law_189 dL_law_190 dL_law_191 dL_law_192 dL_law_193 ?_
  refine jM hP hD hS (va_runV (As := [cI (xv xs (i + 1))]) (rest := [cI r]) X (c_X8_setHands gM_wf (o0 := 0) (x1 := xv xs (i + 1)) (by decide +kernel) hq) (cwV 1 X.2.2.2.2 gL_law_X8_setHands rfl rfl rfl (by decide +kernel) ⟨Nat.le_of_ble_eq_true rfl, Nat.le_of_ble_eq_true rfl⟩) ((k_w (P_r hP) (D_r hD)).preV (ci := 8) G.2.1 (by decide +kernel) (by decide) rfl) rfl rfl hl.1 rfl (lv_room (Nat.le_of_ble_eq_true rfl)) dL_law_194 hf) (fun r2 N1 H locs hz hP hD hS => ?_)
  obtain ⟨rfl, hI⟩ := hz
  refine lv_icmp_eq (tgt := 654) X.1 X.2.1 dL_law_197 (by decide) (fun _ => ?_) (fun hne => absurd rfl hne)
  exact kk M1 N1 H locs hI hP hD hS
set_option maxHeartbeats 4000000 in
set_option maxRecDepth 100000 in
theorem lc_send (G : LG p s m c E b L xs) (hI : INV M N) (hl : lv_has ls 4 (LV b (ad 0) (bd 0) i)) (hi : i + 4 ≤ L) (hf : cells ≤ room_1.cells ∧ slots ≤ room_1.slots) (hP : va_P E.1 vwCl (wd E gC ad M ++ wd E gM bd N) H) (hD : va_D (Fr s) (wd E gC ad M ++ wd E gM bd N)) (hS : va_S (Fr s) s.heap H locs) (kk : LK p l e s m below meth c cells slots Q E ad bd b ls) : W p l e room_1 s m #[Value.ref b] below meth c H locs cells slots Q (F0 m 202 ls []) := by
  have X := G.1
  refine lv_aload_n X.1 X.2.1 dL_law_202 rfl (lv_at hl 1 rfl) ?_
  refine s_arg (k := 1) G hS hl (by omega) dL_law_203 dL_law_204 dL_law_205 dL_law_206 dL_law_207 ?_
  refine s_arg (k := 2) G hS hl (by omega) dL_law_208 dL_law_209 dL_law_210 dL_law_211 dL_law_212 ?_
  refine jC hP hD hS (va_runV (As := [cI (xv xs (i + 1)), cI (xv xs (i + 2))]) (rest := []) X (c_X7_send gC_wf (o0 := 0) (x1 := xv xs (i + 1)) (x2 := xv xs (i + 2)) (by decide +kernel) (j_send hI xv_in xv_in)) (cwV 2 X.2.2.2.2 gL_law_X7_send rfl rfl rfl (by decide +kernel) ⟨Nat.le_of_ble_eq_true rfl, Nat.le_of_ble_eq_true rfl⟩) ((k_w (P_l hP) (D_l hD)).preV (ci := 7) G.2.1 (by decide +kernel) (by decide) rfl) rfl rfl hl.1 rfl (lv_room (Nat.le_of_ble_eq_true rfl)) dL_law_213 hf) (fun r M1 H locs hq hP hD hS => ?_)
  refine lv_aload_n X.1 X.2.1 dL_law_216 rfl (lv_at hl 2 rfl) ?_
  refine s_arg (k := 1) G hS hl (by omega) dL_law_217 dL_law_218 dL_law_219 dL_law_220 dL_law_221 ?_
  refine s_arg (k := 2) G hS hl (by omega) dL_law_222 dL_law_223 dL_law_224 dL_law_225 dL_law_226 ?_
  refine jM hP hD hS (va_runV (As := [cI (xv xs (i + 1)), cI (xv xs (i + 2))]) (rest := [cI r]) X (c_X8_send gM_wf (o0 := 0) (x1 := xv xs (i + 1)) (x2 := xv xs (i + 2)) (by decide +kernel) hq) (cwV 2 X.2.2.2.2 gL_law_X8_send rfl rfl rfl (by decide +kernel) ⟨Nat.le_of_ble_eq_true rfl, Nat.le_of_ble_eq_true rfl⟩) ((k_w (P_r hP) (D_r hD)).preV (ci := 8) G.2.1 (by decide +kernel) (by decide) rfl) rfl rfl hl.1 rfl (lv_room (Nat.le_of_ble_eq_true rfl)) dL_law_227 hf) (fun r2 N1 H locs hz hP hD hS => ?_)
  obtain ⟨rfl, hI⟩ := hz
  refine lv_icmp_eq (tgt := 654) X.1 X.2.1 dL_law_230 (by decide) (fun _ => ?_) (fun hne => absurd rfl hne)
  exact kk M1 N1 H locs hI hP hD hS
set_option maxHeartbeats 4000000 in
set_option maxRecDepth 100000 in
theorem lc_setCarrying (G : LG p s m c E b L xs) (hI : INV M N) (hl : lv_has ls 4 (LV b (ad 0) (bd 0) i)) (hi : i + 4 ≤ L) (hf : cells ≤ room_1.cells ∧ slots ≤ room_1.slots) (hP : va_P E.1 vwCl (wd E gC ad M ++ wd E gM bd N) H) (hD : va_D (Fr s) (wd E gC ad M ++ wd E gM bd N)) (hS : va_S (Fr s) s.heap H locs) (kk : LK p l e s m below meth c cells slots Q E ad bd b ls) : W p l e room_1 s m #[Value.ref b] below meth c H locs cells slots Q (F0 m 235 ls []) := by
  have X := G.1
  refine lv_aload_n X.1 X.2.1 dL_law_235 rfl (lv_at hl 1 rfl) ?_
  refine s_arg (k := 1) G hS hl (by omega) dL_law_236 dL_law_237 dL_law_238 dL_law_239 dL_law_240 ?_
  refine jC hP hD hS (va_runV (As := [cI (xv xs (i + 1))]) (rest := []) X (c_X7_setCarrying gC_wf (o0 := 0) (x1 := xv xs (i + 1)) (by decide +kernel) (j_setCarrying hI xv_in)) (cwV 1 X.2.2.2.2 gL_law_X7_setCarrying rfl rfl rfl (by decide +kernel) ⟨Nat.le_of_ble_eq_true rfl, Nat.le_of_ble_eq_true rfl⟩) ((k_w (P_l hP) (D_l hD)).preV (ci := 7) G.2.1 (by decide +kernel) (by decide) rfl) rfl rfl hl.1 rfl (lv_room (Nat.le_of_ble_eq_true rfl)) dL_law_241 hf) (fun r M1 H locs hq hP hD hS => ?_)
  refine lv_aload_n X.1 X.2.1 dL_law_244 rfl (lv_at hl 2 rfl) ?_
  refine s_arg (k := 1) G hS hl (by omega) dL_law_245 dL_law_246 dL_law_247 dL_law_248 dL_law_249 ?_
  refine jM hP hD hS (va_runV (As := [cI (xv xs (i + 1))]) (rest := [cI r]) X (c_X8_setCarrying gM_wf (o0 := 0) (x1 := xv xs (i + 1)) (by decide +kernel) hq) (cwV 1 X.2.2.2.2 gL_law_X8_setCarrying rfl rfl rfl (by decide +kernel) ⟨Nat.le_of_ble_eq_true rfl, Nat.le_of_ble_eq_true rfl⟩) ((k_w (P_r hP) (D_r hD)).preV (ci := 8) G.2.1 (by decide +kernel) (by decide) rfl) rfl rfl hl.1 rfl (lv_room (Nat.le_of_ble_eq_true rfl)) dL_law_250 hf) (fun r2 N1 H locs hz hP hD hS => ?_)
  obtain ⟨rfl, hI⟩ := hz
  refine lv_icmp_eq (tgt := 654) X.1 X.2.1 dL_law_253 (by decide) (fun _ => ?_) (fun hne => absurd rfl hne)
  exact kk M1 N1 H locs hI hP hD hS
set_option maxHeartbeats 4000000 in
set_option maxRecDepth 100000 in
theorem lc_readCues (G : LG p s m c E b L xs) (hI : INV M N) (hl : lv_has ls 4 (LV b (ad 0) (bd 0) i)) (hi : i + 4 ≤ L) (hf : cells ≤ room_1.cells ∧ slots ≤ room_1.slots) (hP : va_P E.1 vwCl (wd E gC ad M ++ wd E gM bd N) H) (hD : va_D (Fr s) (wd E gC ad M ++ wd E gM bd N)) (hS : va_S (Fr s) s.heap H locs) (kk : LK p l e s m below meth c cells slots Q E ad bd b ls) : W p l e room_1 s m #[Value.ref b] below meth c H locs cells slots Q (F0 m 258 ls []) := by
  have X := G.1
  refine lv_aload_n X.1 X.2.1 dL_law_258 rfl (lv_at hl 1 rfl) ?_
  refine jC hP hD hS (va_runV (As := []) (rest := []) X (c_X7_readCues gC_wf (o0 := 0) (by decide +kernel) (j_readCues hI)) (cwV 0 X.2.2.2.2 gL_law_X7_readCues rfl rfl rfl (by decide +kernel) ⟨Nat.le_of_ble_eq_true rfl, Nat.le_of_ble_eq_true rfl⟩) ((k_w (P_l hP) (D_l hD)).preV (ci := 7) G.2.1 (by decide +kernel) (by decide) rfl) rfl rfl hl.1 rfl (lv_room (Nat.le_of_ble_eq_true rfl)) dL_law_259 hf) (fun r M1 H locs hq hP hD hS => ?_)
  refine lv_aload_n X.1 X.2.1 dL_law_262 rfl (lv_at hl 2 rfl) ?_
  refine jM hP hD hS (va_runV (As := []) (rest := [cI r]) X (c_X8_readCues gM_wf (o0 := 0) (by decide +kernel) hq) (cwV 0 X.2.2.2.2 gL_law_X8_readCues rfl rfl rfl (by decide +kernel) ⟨Nat.le_of_ble_eq_true rfl, Nat.le_of_ble_eq_true rfl⟩) ((k_w (P_r hP) (D_r hD)).preV (ci := 8) G.2.1 (by decide +kernel) (by decide) rfl) rfl rfl hl.1 rfl (lv_room (Nat.le_of_ble_eq_true rfl)) dL_law_263 hf) (fun r2 N1 H locs hz hP hD hS => ?_)
  obtain ⟨rfl, hI⟩ := hz
  refine lv_icmp_eq (tgt := 654) X.1 X.2.1 dL_law_266 (by decide) (fun _ => ?_) (fun hne => absurd rfl hne)
  exact kk M1 N1 H locs hI hP hD hS
set_option maxHeartbeats 4000000 in
set_option maxRecDepth 100000 in
theorem lc_removeCue (G : LG p s m c E b L xs) (hI : INV M N) (hl : lv_has ls 4 (LV b (ad 0) (bd 0) i)) (hi : i + 4 ≤ L) (hf : cells ≤ room_1.cells ∧ slots ≤ room_1.slots) (hP : va_P E.1 vwCl (wd E gC ad M ++ wd E gM bd N) H) (hD : va_D (Fr s) (wd E gC ad M ++ wd E gM bd N)) (hS : va_S (Fr s) s.heap H locs) (kk : LK p l e s m below meth c cells slots Q E ad bd b ls) : W p l e room_1 s m #[Value.ref b] below meth c H locs cells slots Q (F0 m 271 ls []) := by
  have X := G.1
  refine lv_aload_n X.1 X.2.1 dL_law_271 rfl (lv_at hl 1 rfl) ?_
  refine s_arg (k := 1) G hS hl (by omega) dL_law_272 dL_law_273 dL_law_274 dL_law_275 dL_law_276 ?_
  refine jC hP hD hS (va_runV (As := [cI (xv xs (i + 1))]) (rest := []) X (c_X7_removeCue gC_wf (o0 := 0) (x1 := xv xs (i + 1)) (by decide +kernel) (j_removeCue hI xv_in)) (cwV 1 X.2.2.2.2 gL_law_X7_removeCue rfl rfl rfl (by decide +kernel) ⟨Nat.le_of_ble_eq_true rfl, Nat.le_of_ble_eq_true rfl⟩) ((k_w (P_l hP) (D_l hD)).preV (ci := 7) G.2.1 (by decide +kernel) (by decide) rfl) rfl rfl hl.1 rfl (lv_room (Nat.le_of_ble_eq_true rfl)) dL_law_277 hf) (fun r M1 H locs hq hP hD hS => ?_)
  refine lv_aload_n X.1 X.2.1 dL_law_280 rfl (lv_at hl 2 rfl) ?_
  refine s_arg (k := 1) G hS hl (by omega) dL_law_281 dL_law_282 dL_law_283 dL_law_284 dL_law_285 ?_
  refine jM hP hD hS (va_runV (As := [cI (xv xs (i + 1))]) (rest := [cI r]) X (c_X8_removeCue gM_wf (o0 := 0) (x1 := xv xs (i + 1)) (by decide +kernel) hq) (cwV 1 X.2.2.2.2 gL_law_X8_removeCue rfl rfl rfl (by decide +kernel) ⟨Nat.le_of_ble_eq_true rfl, Nat.le_of_ble_eq_true rfl⟩) ((k_w (P_r hP) (D_r hD)).preV (ci := 8) G.2.1 (by decide +kernel) (by decide) rfl) rfl rfl hl.1 rfl (lv_room (Nat.le_of_ble_eq_true rfl)) dL_law_286 hf) (fun r2 N1 H locs hz hP hD hS => ?_)
  obtain ⟨rfl, hI⟩ := hz
  refine lv_icmp_eq (tgt := 654) X.1 X.2.1 dL_law_289 (by decide) (fun _ => ?_) (fun hne => absurd rfl hne)
  exact kk M1 N1 H locs hI hP hD hS
set_option maxHeartbeats 4000000 in
set_option maxRecDepth 100000 in
theorem lc_shift (G : LG p s m c E b L xs) (hI : INV M N) (hl : lv_has ls 4 (LV b (ad 0) (bd 0) i)) (hi : i + 4 ≤ L) (hf : cells ≤ room_1.cells ∧ slots ≤ room_1.slots) (hP : va_P E.1 vwCl (wd E gC ad M ++ wd E gM bd N) H) (hD : va_D (Fr s) (wd E gC ad M ++ wd E gM bd N)) (hS : va_S (Fr s) s.heap H locs) (kk : LK p l e s m below meth c cells slots Q E ad bd b ls) : W p l e room_1 s m #[Value.ref b] below meth c H locs cells slots Q (F0 m 294 ls []) := by
  have X := G.1
  refine lv_aload_n X.1 X.2.1 dL_law_294 rfl (lv_at hl 1 rfl) ?_
  refine s_arg (k := 1) G hS hl (by omega) dL_law_295 dL_law_296 dL_law_297 dL_law_298 dL_law_299 ?_
  refine s_arg (k := 2) G hS hl (by omega) dL_law_300 dL_law_301 dL_law_302 dL_law_303 dL_law_304 ?_
  refine jC hP hD hS (va_runV (As := [cI (xv xs (i + 1)), cI (xv xs (i + 2))]) (rest := []) X (c_X7_shift gC_wf (o0 := 0) (x1 := xv xs (i + 1)) (x2 := xv xs (i + 2)) (by decide +kernel) (j_shift hI xv_in xv_in)) (cwV 2 X.2.2.2.2 gL_law_X7_shift rfl rfl rfl (by decide +kernel) ⟨Nat.le_of_ble_eq_true rfl, Nat.le_of_ble_eq_true rfl⟩) ((k_w (P_l hP) (D_l hD)).preV (ci := 7) G.2.1 (by decide +kernel) (by decide) rfl) rfl rfl hl.1 rfl (lv_room (Nat.le_of_ble_eq_true rfl)) dL_law_305 hf) (fun r M1 H locs hq hP hD hS => ?_)
  refine lv_aload_n X.1 X.2.1 dL_law_308 rfl (lv_at hl 2 rfl) ?_
  refine s_arg (k := 1) G hS hl (by omega) dL_law_309 dL_law_310 dL_law_311 dL_law_312 dL_law_313 ?_
  refine s_arg (k := 2) G hS hl (by omega) dL_law_314 dL_law_315 dL_law_316 dL_law_317 dL_law_318 ?_
  refine jM hP hD hS (va_runV (As := [cI (xv xs (i + 1)), cI (xv xs (i + 2))]) (rest := [cI r]) X (c_X8_shift gM_wf (o0 := 0) (x1 := xv xs (i + 1)) (x2 := xv xs (i + 2)) (by decide +kernel) hq) (cwV 2 X.2.2.2.2 gL_law_X8_shift rfl rfl rfl (by decide +kernel) ⟨Nat.le_of_ble_eq_true rfl, Nat.le_of_ble_eq_true rfl⟩) ((k_w (P_r hP) (D_r hD)).preV (ci := 8) G.2.1 (by decide +kernel) (by decide) rfl) rfl rfl hl.1 rfl (lv_room (Nat.le_of_ble_eq_true rfl)) dL_law_319 hf) (fun r2 N1 H locs hz hP hD hS => ?_)
  obtain ⟨rfl, hI⟩ := hz
  refine lv_icmp_eq (tgt := 654) X.1 X.2.1 dL_law_322 (by decide) (fun _ => ?_) (fun hne => absurd rfl hne)
  exact kk M1 N1 H locs hI hP hD hS
set_option maxHeartbeats 4000000 in
set_option maxRecDepth 100000 in
theorem lc_cutScene (G : LG p s m c E b L xs) (hI : INV M N) (hl : lv_has ls 4 (LV b (ad 0) (bd 0) i)) (hi : i + 4 ≤ L) (hf : cells ≤ room_1.cells ∧ slots ≤ room_1.slots) (hP : va_P E.1 vwCl (wd E gC ad M ++ wd E gM bd N) H) (hD : va_D (Fr s) (wd E gC ad M ++ wd E gM bd N)) (hS : va_S (Fr s) s.heap H locs) (kk : LK p l e s m below meth c cells slots Q E ad bd b ls) : W p l e room_1 s m #[Value.ref b] below meth c H locs cells slots Q (F0 m 327 ls []) := by
  have X := G.1
  refine lv_aload_n X.1 X.2.1 dL_law_327 rfl (lv_at hl 1 rfl) ?_
  refine s_arg (k := 1) G hS hl (by omega) dL_law_328 dL_law_329 dL_law_330 dL_law_331 dL_law_332 ?_
  refine jC hP hD hS (va_runV (As := [cI (xv xs (i + 1))]) (rest := []) X (c_X7_cutScene gC_wf (o0 := 0) (x1 := xv xs (i + 1)) (by decide +kernel) (j_cutScene hI xv_in)) (cwV 1 X.2.2.2.2 gL_law_X7_cutScene rfl rfl rfl (by decide +kernel) ⟨Nat.le_of_ble_eq_true rfl, Nat.le_of_ble_eq_true rfl⟩) ((k_w (P_l hP) (D_l hD)).preV (ci := 7) G.2.1 (by decide +kernel) (by decide) rfl) rfl rfl hl.1 rfl (lv_room (Nat.le_of_ble_eq_true rfl)) dL_law_333 hf) (fun r M1 H locs hq hP hD hS => ?_)
  refine lv_aload_n X.1 X.2.1 dL_law_336 rfl (lv_at hl 2 rfl) ?_
  refine s_arg (k := 1) G hS hl (by omega) dL_law_337 dL_law_338 dL_law_339 dL_law_340 dL_law_341 ?_
  refine jM hP hD hS (va_runV (As := [cI (xv xs (i + 1))]) (rest := [cI r]) X (c_X8_cutScene gM_wf (o0 := 0) (x1 := xv xs (i + 1)) (by decide +kernel) hq) (cwV 1 X.2.2.2.2 gL_law_X8_cutScene rfl rfl rfl (by decide +kernel) ⟨Nat.le_of_ble_eq_true rfl, Nat.le_of_ble_eq_true rfl⟩) ((k_w (P_r hP) (D_r hD)).preV (ci := 8) G.2.1 (by decide +kernel) (by decide) rfl) rfl rfl hl.1 rfl (lv_room (Nat.le_of_ble_eq_true rfl)) dL_law_342 hf) (fun r2 N1 H locs hz hP hD hS => ?_)
  obtain ⟨rfl, hI⟩ := hz
  refine lv_icmp_eq (tgt := 654) X.1 X.2.1 dL_law_345 (by decide) (fun _ => ?_) (fun hne => absurd rfl hne)
  exact kk M1 N1 H locs hI hP hD hS
set_option maxHeartbeats 4000000 in
set_option maxRecDepth 100000 in
theorem lc_take (G : LG p s m c E b L xs) (hI : INV M N) (hl : lv_has ls 4 (LV b (ad 0) (bd 0) i)) (hi : i + 4 ≤ L) (hf : cells ≤ room_1.cells ∧ slots ≤ room_1.slots) (hP : va_P E.1 vwCl (wd E gC ad M ++ wd E gM bd N) H) (hD : va_D (Fr s) (wd E gC ad M ++ wd E gM bd N)) (hS : va_S (Fr s) s.heap H locs) (kk : LK p l e s m below meth c cells slots Q E ad bd b ls) : W p l e room_1 s m #[Value.ref b] below meth c H locs cells slots Q (F0 m 350 ls []) := by
  have X := G.1
  refine lv_aload_n X.1 X.2.1 dL_law_350 rfl (lv_at hl 1 rfl) ?_
  refine jC hP hD hS (va_runV (As := []) (rest := []) X (c_X7_take gC_wf (o0 := 0) (by decide +kernel) (j_take hI)) (cwV 0 X.2.2.2.2 gL_law_X7_take rfl rfl rfl (by decide +kernel) ⟨Nat.le_of_ble_eq_true rfl, Nat.le_of_ble_eq_true rfl⟩) ((k_w (P_l hP) (D_l hD)).preV (ci := 7) G.2.1 (by decide +kernel) (by decide) rfl) rfl rfl hl.1 rfl (lv_room (Nat.le_of_ble_eq_true rfl)) dL_law_351 hf) (fun r M1 H locs hq hP hD hS => ?_)
  refine lv_aload_n X.1 X.2.1 dL_law_354 rfl (lv_at hl 2 rfl) ?_
  refine jM hP hD hS (va_runV (As := []) (rest := [cI r]) X (c_X8_take gM_wf (o0 := 0) (by decide +kernel) hq) (cwV 0 X.2.2.2.2 gL_law_X8_take rfl rfl rfl (by decide +kernel) ⟨Nat.le_of_ble_eq_true rfl, Nat.le_of_ble_eq_true rfl⟩) ((k_w (P_r hP) (D_r hD)).preV (ci := 8) G.2.1 (by decide +kernel) (by decide) rfl) rfl rfl hl.1 rfl (lv_room (Nat.le_of_ble_eq_true rfl)) dL_law_355 hf) (fun r2 N1 H locs hz hP hD hS => ?_)
  obtain ⟨rfl, hI⟩ := hz
  refine lv_icmp_eq (tgt := 654) X.1 X.2.1 dL_law_358 (by decide) (fun _ => ?_) (fun hne => absurd rfl hne)
  exact kk M1 N1 H locs hI hP hD hS
set_option maxHeartbeats 4000000 in
set_option maxRecDepth 100000 in
theorem lc_type (G : LG p s m c E b L xs) (hI : INV M N) (hl : lv_has ls 4 (LV b (ad 0) (bd 0) i)) (hi : i + 4 ≤ L) (hf : cells ≤ room_1.cells ∧ slots ≤ room_1.slots) (hP : va_P E.1 vwCl (wd E gC ad M ++ wd E gM bd N) H) (hD : va_D (Fr s) (wd E gC ad M ++ wd E gM bd N)) (hS : va_S (Fr s) s.heap H locs) (kk : LK p l e s m below meth c cells slots Q E ad bd b ls) : W p l e room_1 s m #[Value.ref b] below meth c H locs cells slots Q (F0 m 363 ls []) := by
  have X := G.1
  obtain ⟨y, y0, y1, ey⟩ := ch_ex (Int32.ofInt (xv xs (i + 1)))
  refine lv_aload_n X.1 X.2.1 dL_law_363 rfl (lv_at hl 1 rfl) ?_
  refine s_arg (k := 1) G hS hl (by omega) dL_law_364 dL_law_365 dL_law_366 dL_law_367 dL_law_368 ?_
  refine lv_i2c X.1 X.2.1 dL_law_369 ey ?_
  refine jC hP hD hS (va_runV (As := [cI y]) (rest := []) X (c_X7_type gC_wf (o0 := 0) (x1 := y) (by decide +kernel) (j_type hI y0 y1)) (cwV 1 X.2.2.2.2 gL_law_X7_type rfl rfl rfl (by decide +kernel) ⟨Nat.le_of_ble_eq_true rfl, Nat.le_of_ble_eq_true rfl⟩) ((k_w (P_l hP) (D_l hD)).preV (ci := 7) G.2.1 (by decide +kernel) (by decide) rfl) rfl rfl hl.1 rfl (lv_room (Nat.le_of_ble_eq_true rfl)) dL_law_370 hf) (fun r M1 H locs hq hP hD hS => ?_)
  refine lv_aload_n X.1 X.2.1 dL_law_373 rfl (lv_at hl 2 rfl) ?_
  refine s_arg (k := 1) G hS hl (by omega) dL_law_374 dL_law_375 dL_law_376 dL_law_377 dL_law_378 ?_
  refine lv_i2c X.1 X.2.1 dL_law_379 ey ?_
  refine jM hP hD hS (va_runV (As := [cI y]) (rest := [cI r]) X (c_X8_type gM_wf (o0 := 0) (x1 := y) (by decide +kernel) hq) (cwV 1 X.2.2.2.2 gL_law_X8_type rfl rfl rfl (by decide +kernel) ⟨Nat.le_of_ble_eq_true rfl, Nat.le_of_ble_eq_true rfl⟩) ((k_w (P_r hP) (D_r hD)).preV (ci := 8) G.2.1 (by decide +kernel) (by decide) rfl) rfl rfl hl.1 rfl (lv_room (Nat.le_of_ble_eq_true rfl)) dL_law_380 hf) (fun r2 N1 H locs hz hP hD hS => ?_)
  obtain ⟨rfl, hI⟩ := hz
  refine lv_icmp_eq (tgt := 654) X.1 X.2.1 dL_law_383 (by decide) (fun _ => ?_) (fun hne => absurd rfl hne)
  exact kk M1 N1 H locs hI hP hD hS
set_option maxHeartbeats 4000000 in
set_option maxRecDepth 100000 in
theorem lc_clearText (G : LG p s m c E b L xs) (hI : INV M N) (hl : lv_has ls 4 (LV b (ad 0) (bd 0) i)) (hi : i + 4 ≤ L) (hf : cells ≤ room_1.cells ∧ slots ≤ room_1.slots) (hP : va_P E.1 vwCl (wd E gC ad M ++ wd E gM bd N) H) (hD : va_D (Fr s) (wd E gC ad M ++ wd E gM bd N)) (hS : va_S (Fr s) s.heap H locs) (kk : LK p l e s m below meth c cells slots Q E ad bd b ls) : W p l e room_1 s m #[Value.ref b] below meth c H locs cells slots Q (F0 m 388 ls []) := by
  have X := G.1
  refine lv_aload_n X.1 X.2.1 dL_law_388 rfl (lv_at hl 1 rfl) ?_
  refine jC hP hD hS (va_runV (As := []) (rest := []) X (c_X7_clearText gC_wf (o0 := 0) (by decide +kernel) (j_clearText hI)) (cwV 0 X.2.2.2.2 gL_law_X7_clearText rfl rfl rfl (by decide +kernel) ⟨Nat.le_of_ble_eq_true rfl, Nat.le_of_ble_eq_true rfl⟩) ((k_w (P_l hP) (D_l hD)).preV (ci := 7) G.2.1 (by decide +kernel) (by decide) rfl) rfl rfl hl.1 rfl (lv_room (Nat.le_of_ble_eq_true rfl)) dL_law_389 hf) (fun r M1 H locs hq hP hD hS => ?_)
  refine lv_aload_n X.1 X.2.1 dL_law_392 rfl (lv_at hl 2 rfl) ?_
  refine jM hP hD hS (va_runV (As := []) (rest := [cI r]) X (c_X8_clearText gM_wf (o0 := 0) (by decide +kernel) hq) (cwV 0 X.2.2.2.2 gL_law_X8_clearText rfl rfl rfl (by decide +kernel) ⟨Nat.le_of_ble_eq_true rfl, Nat.le_of_ble_eq_true rfl⟩) ((k_w (P_r hP) (D_r hD)).preV (ci := 8) G.2.1 (by decide +kernel) (by decide) rfl) rfl rfl hl.1 rfl (lv_room (Nat.le_of_ble_eq_true rfl)) dL_law_393 hf) (fun r2 N1 H locs hz hP hD hS => ?_)
  obtain ⟨rfl, hI⟩ := hz
  refine lv_icmp_eq (tgt := 654) X.1 X.2.1 dL_law_396 (by decide) (fun _ => ?_) (fun hne => absurd rfl hne)
  exact kk M1 N1 H locs hI hP hD hS
set_option maxHeartbeats 4000000 in
set_option maxRecDepth 100000 in
theorem lc_undo (G : LG p s m c E b L xs) (hI : INV M N) (hl : lv_has ls 4 (LV b (ad 0) (bd 0) i)) (hi : i + 4 ≤ L) (hf : cells ≤ room_1.cells ∧ slots ≤ room_1.slots) (hP : va_P E.1 vwCl (wd E gC ad M ++ wd E gM bd N) H) (hD : va_D (Fr s) (wd E gC ad M ++ wd E gM bd N)) (hS : va_S (Fr s) s.heap H locs) (kk : LK p l e s m below meth c cells slots Q E ad bd b ls) : W p l e room_1 s m #[Value.ref b] below meth c H locs cells slots Q (F0 m 401 ls []) := by
  have X := G.1
  refine lv_aload_n X.1 X.2.1 dL_law_401 rfl (lv_at hl 1 rfl) ?_
  refine jC hP hD hS (va_runV (As := []) (rest := []) X (c_X7_undo gC_wf (o0 := 0) (by decide +kernel) (j_undo hI)) (cwV 0 X.2.2.2.2 gL_law_X7_undo rfl rfl rfl (by decide +kernel) ⟨Nat.le_of_ble_eq_true rfl, Nat.le_of_ble_eq_true rfl⟩) ((k_w (P_l hP) (D_l hD)).preV (ci := 7) G.2.1 (by decide +kernel) (by decide) rfl) rfl rfl hl.1 rfl (lv_room (Nat.le_of_ble_eq_true rfl)) dL_law_402 hf) (fun r M1 H locs hq hP hD hS => ?_)
  refine lv_aload_n X.1 X.2.1 dL_law_405 rfl (lv_at hl 2 rfl) ?_
  refine jM hP hD hS (va_runV (As := []) (rest := [cI r]) X (c_X8_undo gM_wf (o0 := 0) (by decide +kernel) hq) (cwV 0 X.2.2.2.2 gL_law_X8_undo rfl rfl rfl (by decide +kernel) ⟨Nat.le_of_ble_eq_true rfl, Nat.le_of_ble_eq_true rfl⟩) ((k_w (P_r hP) (D_r hD)).preV (ci := 8) G.2.1 (by decide +kernel) (by decide) rfl) rfl rfl hl.1 rfl (lv_room (Nat.le_of_ble_eq_true rfl)) dL_law_406 hf) (fun r2 N1 H locs hz hP hD hS => ?_)
  obtain ⟨rfl, hI⟩ := hz
  refine lv_icmp_eq (tgt := 654) X.1 X.2.1 dL_law_409 (by decide) (fun _ => ?_) (fun hne => absurd rfl hne)
  exact kk M1 N1 H locs hI hP hD hS
set_option maxHeartbeats 4000000 in
set_option maxRecDepth 100000 in
theorem lc_keep (G : LG p s m c E b L xs) (hI : INV M N) (hl : lv_has ls 4 (LV b (ad 0) (bd 0) i)) (hi : i + 4 ≤ L) (hf : cells ≤ room_1.cells ∧ slots ≤ room_1.slots) (hP : va_P E.1 vwCl (wd E gC ad M ++ wd E gM bd N) H) (hD : va_D (Fr s) (wd E gC ad M ++ wd E gM bd N)) (hS : va_S (Fr s) s.heap H locs) (kk : LK p l e s m below meth c cells slots Q E ad bd b ls) : W p l e room_1 s m #[Value.ref b] below meth c H locs cells slots Q (F0 m 414 ls []) := by
  have X := G.1
  refine lv_aload_n X.1 X.2.1 dL_law_414 rfl (lv_at hl 1 rfl) ?_
  refine jC hP hD hS (va_runV (As := []) (rest := []) X (c_X7_keep gC_wf (o0 := 0) (by decide +kernel) (j_keep hI)) (cwV 0 X.2.2.2.2 gL_law_X7_keep rfl rfl rfl (by decide +kernel) ⟨Nat.le_of_ble_eq_true rfl, Nat.le_of_ble_eq_true rfl⟩) ((k_w (P_l hP) (D_l hD)).preV (ci := 7) G.2.1 (by decide +kernel) (by decide) rfl) rfl rfl hl.1 rfl (lv_room (Nat.le_of_ble_eq_true rfl)) dL_law_415 hf) (fun r M1 H locs hq hP hD hS => ?_)
  refine lv_aload_n X.1 X.2.1 dL_law_418 rfl (lv_at hl 2 rfl) ?_
  refine jM hP hD hS (va_runV (As := []) (rest := [cI r]) X (c_X8_keep gM_wf (o0 := 0) (by decide +kernel) hq) (cwV 0 X.2.2.2.2 gL_law_X8_keep rfl rfl rfl (by decide +kernel) ⟨Nat.le_of_ble_eq_true rfl, Nat.le_of_ble_eq_true rfl⟩) ((k_w (P_r hP) (D_r hD)).preV (ci := 8) G.2.1 (by decide +kernel) (by decide) rfl) rfl rfl hl.1 rfl (lv_room (Nat.le_of_ble_eq_true rfl)) dL_law_419 hf) (fun r2 N1 H locs hz hP hD hS => ?_)
  obtain ⟨rfl, hI⟩ := hz
  refine lv_icmp_eq (tgt := 654) X.1 X.2.1 dL_law_422 (by decide) (fun _ => ?_) (fun hne => absurd rfl hne)
  exact kk M1 N1 H locs hI hP hD hS
set_option maxHeartbeats 4000000 in
set_option maxRecDepth 100000 in
theorem lc_restore (G : LG p s m c E b L xs) (hI : INV M N) (hl : lv_has ls 4 (LV b (ad 0) (bd 0) i)) (hi : i + 4 ≤ L) (hf : cells ≤ room_1.cells ∧ slots ≤ room_1.slots) (hP : va_P E.1 vwCl (wd E gC ad M ++ wd E gM bd N) H) (hD : va_D (Fr s) (wd E gC ad M ++ wd E gM bd N)) (hS : va_S (Fr s) s.heap H locs) (kk : LK p l e s m below meth c cells slots Q E ad bd b ls) : W p l e room_1 s m #[Value.ref b] below meth c H locs cells slots Q (F0 m 427 ls []) := by
  have X := G.1
  refine lv_aload_n X.1 X.2.1 dL_law_427 rfl (lv_at hl 1 rfl) ?_
  refine jC hP hD hS (va_runV (As := []) (rest := []) X (c_X7_restore gC_wf (o0 := 0) (by decide +kernel) (j_restore hI)) (cwV 0 X.2.2.2.2 gL_law_X7_restore rfl rfl rfl (by decide +kernel) ⟨Nat.le_of_ble_eq_true rfl, Nat.le_of_ble_eq_true rfl⟩) ((k_w (P_l hP) (D_l hD)).preV (ci := 7) G.2.1 (by decide +kernel) (by decide) rfl) rfl rfl hl.1 rfl (lv_room (Nat.le_of_ble_eq_true rfl)) dL_law_428 hf) (fun r M1 H locs hq hP hD hS => ?_)
  refine lv_aload_n X.1 X.2.1 dL_law_431 rfl (lv_at hl 2 rfl) ?_
  refine jM hP hD hS (va_runV (As := []) (rest := [cI r]) X (c_X8_restore gM_wf (o0 := 0) (by decide +kernel) hq) (cwV 0 X.2.2.2.2 gL_law_X8_restore rfl rfl rfl (by decide +kernel) ⟨Nat.le_of_ble_eq_true rfl, Nat.le_of_ble_eq_true rfl⟩) ((k_w (P_r hP) (D_r hD)).preV (ci := 8) G.2.1 (by decide +kernel) (by decide) rfl) rfl rfl hl.1 rfl (lv_room (Nat.le_of_ble_eq_true rfl)) dL_law_432 hf) (fun r2 N1 H locs hz hP hD hS => ?_)
  obtain ⟨rfl, hI⟩ := hz
  refine lv_icmp_eq (tgt := 654) X.1 X.2.1 dL_law_435 (by decide) (fun _ => ?_) (fun hne => absurd rfl hne)
  exact kk M1 N1 H locs hI hP hD hS
set_option maxHeartbeats 4000000 in
set_option maxRecDepth 100000 in
theorem lc_sound (G : LG p s m c E b L xs) (hI : INV M N) (hl : lv_has ls 4 (LV b (ad 0) (bd 0) i)) (hi : i + 4 ≤ L) (hf : cells ≤ room_1.cells ∧ slots ≤ room_1.slots) (hP : va_P E.1 vwCl (wd E gC ad M ++ wd E gM bd N) H) (hD : va_D (Fr s) (wd E gC ad M ++ wd E gM bd N)) (hS : va_S (Fr s) s.heap H locs) (kk : LK p l e s m below meth c cells slots Q E ad bd b ls) : W p l e room_1 s m #[Value.ref b] below meth c H locs cells slots Q (F0 m 440 ls []) := by
  have X := G.1
  refine lv_aload_n X.1 X.2.1 dL_law_440 rfl (lv_at hl 1 rfl) ?_
  refine s_arg (k := 1) G hS hl (by omega) dL_law_441 dL_law_442 dL_law_443 dL_law_444 dL_law_445 ?_
  refine s_arg (k := 2) G hS hl (by omega) dL_law_446 dL_law_447 dL_law_448 dL_law_449 dL_law_450 ?_
  refine jC hP hD hS (va_runV (As := [cI (xv xs (i + 1)), cI (xv xs (i + 2))]) (rest := []) X (c_X7_sound gC_wf (o0 := 0) (x1 := xv xs (i + 1)) (x2 := xv xs (i + 2)) (by decide +kernel) (j_sound hI xv_in xv_in)) (cwV 2 X.2.2.2.2 gL_law_X7_sound rfl rfl rfl (by decide +kernel) ⟨Nat.le_of_ble_eq_true rfl, Nat.le_of_ble_eq_true rfl⟩) ((k_w (P_l hP) (D_l hD)).preV (ci := 7) G.2.1 (by decide +kernel) (by decide) rfl) rfl rfl hl.1 rfl (lv_room (Nat.le_of_ble_eq_true rfl)) dL_law_451 hf) (fun r M1 H locs hq hP hD hS => ?_)
  refine lv_aload_n X.1 X.2.1 dL_law_454 rfl (lv_at hl 2 rfl) ?_
  refine s_arg (k := 1) G hS hl (by omega) dL_law_455 dL_law_456 dL_law_457 dL_law_458 dL_law_459 ?_
  refine s_arg (k := 2) G hS hl (by omega) dL_law_460 dL_law_461 dL_law_462 dL_law_463 dL_law_464 ?_
  refine jM hP hD hS (va_runV (As := [cI (xv xs (i + 1)), cI (xv xs (i + 2))]) (rest := [cI r]) X (c_X8_sound gM_wf (o0 := 0) (x1 := xv xs (i + 1)) (x2 := xv xs (i + 2)) (by decide +kernel) hq) (cwV 2 X.2.2.2.2 gL_law_X8_sound rfl rfl rfl (by decide +kernel) ⟨Nat.le_of_ble_eq_true rfl, Nat.le_of_ble_eq_true rfl⟩) ((k_w (P_r hP) (D_r hD)).preV (ci := 8) G.2.1 (by decide +kernel) (by decide) rfl) rfl rfl hl.1 rfl (lv_room (Nat.le_of_ble_eq_true rfl)) dL_law_465 hf) (fun r2 N1 H locs hz hP hD hS => ?_)
  obtain ⟨rfl, hI⟩ := hz
  refine lv_icmp_eq (tgt := 654) X.1 X.2.1 dL_law_468 (by decide) (fun _ => ?_) (fun hne => absurd rfl hne)
  exact kk M1 N1 H locs hI hP hD hS
set_option maxHeartbeats 4000000 in
set_option maxRecDepth 100000 in
theorem lc_cue (G : LG p s m c E b L xs) (hI : INV M N) (hl : lv_has ls 4 (LV b (ad 0) (bd 0) i)) (hi : i + 4 ≤ L) (hf : cells ≤ room_1.cells ∧ slots ≤ room_1.slots) (hP : va_P E.1 vwCl (wd E gC ad M ++ wd E gM bd N) H) (hD : va_D (Fr s) (wd E gC ad M ++ wd E gM bd N)) (hS : va_S (Fr s) s.heap H locs) (kk : LK p l e s m below meth c cells slots Q E ad bd b ls) : W p l e room_1 s m #[Value.ref b] below meth c H locs cells slots Q (F0 m 473 ls []) := by
  have X := G.1
  refine lv_aload_n X.1 X.2.1 dL_law_473 rfl (lv_at hl 1 rfl) ?_
  refine s_arg (k := 1) G hS hl (by omega) dL_law_474 dL_law_475 dL_law_476 dL_law_477 dL_law_478 ?_
  refine s_arg (k := 2) G hS hl (by omega) dL_law_479 dL_law_480 dL_law_481 dL_law_482 dL_law_483 ?_
  refine jC hP hD hS (va_runV (As := [cI (xv xs (i + 1)), cI (xv xs (i + 2))]) (rest := []) X (c_X7_cue gC_wf (o0 := 0) (x1 := xv xs (i + 1)) (x2 := xv xs (i + 2)) (by decide +kernel) (j_cue hI xv_in xv_in)) (cwV 2 X.2.2.2.2 gL_law_X7_cue rfl rfl rfl (by decide +kernel) ⟨Nat.le_of_ble_eq_true rfl, Nat.le_of_ble_eq_true rfl⟩) ((k_w (P_l hP) (D_l hD)).preV (ci := 7) G.2.1 (by decide +kernel) (by decide) rfl) rfl rfl hl.1 rfl (lv_room (Nat.le_of_ble_eq_true rfl)) dL_law_484 hf) (fun r M1 H locs hq hP hD hS => ?_)
  refine lv_aload_n X.1 X.2.1 dL_law_487 rfl (lv_at hl 2 rfl) ?_
  refine s_arg (k := 1) G hS hl (by omega) dL_law_488 dL_law_489 dL_law_490 dL_law_491 dL_law_492 ?_
  refine s_arg (k := 2) G hS hl (by omega) dL_law_493 dL_law_494 dL_law_495 dL_law_496 dL_law_497 ?_
  refine jM hP hD hS (va_runV (As := [cI (xv xs (i + 1)), cI (xv xs (i + 2))]) (rest := [cI r]) X (c_X8_cue gM_wf (o0 := 0) (x1 := xv xs (i + 1)) (x2 := xv xs (i + 2)) (by decide +kernel) hq) (cwV 2 X.2.2.2.2 gL_law_X8_cue rfl rfl rfl (by decide +kernel) ⟨Nat.le_of_ble_eq_true rfl, Nat.le_of_ble_eq_true rfl⟩) ((k_w (P_r hP) (D_r hD)).preV (ci := 8) G.2.1 (by decide +kernel) (by decide) rfl) rfl rfl hl.1 rfl (lv_room (Nat.le_of_ble_eq_true rfl)) dL_law_498 hf) (fun r2 N1 H locs hz hP hD hS => ?_)
  obtain ⟨rfl, hI⟩ := hz
  refine lv_icmp_eq (tgt := 654) X.1 X.2.1 dL_law_501 (by decide) (fun _ => ?_) (fun hne => absurd rfl hne)
  exact kk M1 N1 H locs hI hP hD hS
set_option maxHeartbeats 4000000 in
set_option maxRecDepth 100000 in
theorem lc_hand (G : LG p s m c E b L xs) (hI : INV M N) (hl : lv_has ls 4 (LV b (ad 0) (bd 0) i)) (hi : i + 4 ≤ L) (hf : cells ≤ room_1.cells ∧ slots ≤ room_1.slots) (hP : va_P E.1 vwCl (wd E gC ad M ++ wd E gM bd N) H) (hD : va_D (Fr s) (wd E gC ad M ++ wd E gM bd N)) (hS : va_S (Fr s) s.heap H locs) (kk : LK p l e s m below meth c cells slots Q E ad bd b ls) : W p l e room_1 s m #[Value.ref b] below meth c H locs cells slots Q (F0 m 506 ls []) := by
  have X := G.1
  refine lv_aload_n X.1 X.2.1 dL_law_506 rfl (lv_at hl 1 rfl) ?_
  refine s_arg (k := 1) G hS hl (by omega) dL_law_507 dL_law_508 dL_law_509 dL_law_510 dL_law_511 ?_
  refine s_arg (k := 2) G hS hl (by omega) dL_law_512 dL_law_513 dL_law_514 dL_law_515 dL_law_516 ?_
  refine jC hP hD hS (va_runV (As := [cI (xv xs (i + 1)), cI (xv xs (i + 2))]) (rest := []) X (c_X7_hand gC_wf (o0 := 0) (x1 := xv xs (i + 1)) (x2 := xv xs (i + 2)) (by decide +kernel) (j_hand hI xv_in xv_in)) (cwV 2 X.2.2.2.2 gL_law_X7_hand rfl rfl rfl (by decide +kernel) ⟨Nat.le_of_ble_eq_true rfl, Nat.le_of_ble_eq_true rfl⟩) ((k_w (P_l hP) (D_l hD)).preV (ci := 7) G.2.1 (by decide +kernel) (by decide) rfl) rfl rfl hl.1 rfl (lv_room (Nat.le_of_ble_eq_true rfl)) dL_law_517 hf) (fun r M1 H locs hq hP hD hS => ?_)
  refine lv_aload_n X.1 X.2.1 dL_law_520 rfl (lv_at hl 2 rfl) ?_
  refine s_arg (k := 1) G hS hl (by omega) dL_law_521 dL_law_522 dL_law_523 dL_law_524 dL_law_525 ?_
  refine s_arg (k := 2) G hS hl (by omega) dL_law_526 dL_law_527 dL_law_528 dL_law_529 dL_law_530 ?_
  refine jM hP hD hS (va_runV (As := [cI (xv xs (i + 1)), cI (xv xs (i + 2))]) (rest := [cI r]) X (c_X8_hand gM_wf (o0 := 0) (x1 := xv xs (i + 1)) (x2 := xv xs (i + 2)) (by decide +kernel) hq) (cwV 2 X.2.2.2.2 gL_law_X8_hand rfl rfl rfl (by decide +kernel) ⟨Nat.le_of_ble_eq_true rfl, Nat.le_of_ble_eq_true rfl⟩) ((k_w (P_r hP) (D_r hD)).preV (ci := 8) G.2.1 (by decide +kernel) (by decide) rfl) rfl rfl hl.1 rfl (lv_room (Nat.le_of_ble_eq_true rfl)) dL_law_531 hf) (fun r2 N1 H locs hz hP hD hS => ?_)
  obtain ⟨rfl, hI⟩ := hz
  refine lv_icmp_eq (tgt := 654) X.1 X.2.1 dL_law_534 (by decide) (fun _ => ?_) (fun hne => absurd rfl hne)
  exact kk M1 N1 H locs hI hP hD hS
set_option maxHeartbeats 4000000 in
set_option maxRecDepth 100000 in
theorem lc_scene (G : LG p s m c E b L xs) (hI : INV M N) (hl : lv_has ls 4 (LV b (ad 0) (bd 0) i)) (hi : i + 4 ≤ L) (hf : cells ≤ room_1.cells ∧ slots ≤ room_1.slots) (hP : va_P E.1 vwCl (wd E gC ad M ++ wd E gM bd N) H) (hD : va_D (Fr s) (wd E gC ad M ++ wd E gM bd N)) (hS : va_S (Fr s) s.heap H locs) (kk : LK p l e s m below meth c cells slots Q E ad bd b ls) : W p l e room_1 s m #[Value.ref b] below meth c H locs cells slots Q (F0 m 539 ls []) := by
  have X := G.1
  refine lv_aload_n X.1 X.2.1 dL_law_539 rfl (lv_at hl 1 rfl) ?_
  refine s_arg (k := 1) G hS hl (by omega) dL_law_540 dL_law_541 dL_law_542 dL_law_543 dL_law_544 ?_
  refine s_arg (k := 2) G hS hl (by omega) dL_law_545 dL_law_546 dL_law_547 dL_law_548 dL_law_549 ?_
  refine jC hP hD hS (va_runV (As := [cI (xv xs (i + 1)), cI (xv xs (i + 2))]) (rest := []) X (c_X7_scene gC_wf (o0 := 0) (x1 := xv xs (i + 1)) (x2 := xv xs (i + 2)) (by decide +kernel) (j_scene hI xv_in xv_in)) (cwV 2 X.2.2.2.2 gL_law_X7_scene rfl rfl rfl (by decide +kernel) ⟨Nat.le_of_ble_eq_true rfl, Nat.le_of_ble_eq_true rfl⟩) ((k_w (P_l hP) (D_l hD)).preV (ci := 7) G.2.1 (by decide +kernel) (by decide) rfl) rfl rfl hl.1 rfl (lv_room (Nat.le_of_ble_eq_true rfl)) dL_law_550 hf) (fun r M1 H locs hq hP hD hS => ?_)
  refine lv_aload_n X.1 X.2.1 dL_law_553 rfl (lv_at hl 2 rfl) ?_
  refine s_arg (k := 1) G hS hl (by omega) dL_law_554 dL_law_555 dL_law_556 dL_law_557 dL_law_558 ?_
  refine s_arg (k := 2) G hS hl (by omega) dL_law_559 dL_law_560 dL_law_561 dL_law_562 dL_law_563 ?_
  refine jM hP hD hS (va_runV (As := [cI (xv xs (i + 1)), cI (xv xs (i + 2))]) (rest := [cI r]) X (c_X8_scene gM_wf (o0 := 0) (x1 := xv xs (i + 1)) (x2 := xv xs (i + 2)) (by decide +kernel) hq) (cwV 2 X.2.2.2.2 gL_law_X8_scene rfl rfl rfl (by decide +kernel) ⟨Nat.le_of_ble_eq_true rfl, Nat.le_of_ble_eq_true rfl⟩) ((k_w (P_r hP) (D_r hD)).preV (ci := 8) G.2.1 (by decide +kernel) (by decide) rfl) rfl rfl hl.1 rfl (lv_room (Nat.le_of_ble_eq_true rfl)) dL_law_564 hf) (fun r2 N1 H locs hz hP hD hS => ?_)
  obtain ⟨rfl, hI⟩ := hz
  refine lv_icmp_eq (tgt := 654) X.1 X.2.1 dL_law_567 (by decide) (fun _ => ?_) (fun hne => absurd rfl hne)
  exact kk M1 N1 H locs hI hP hD hS
set_option maxHeartbeats 4000000 in
set_option maxRecDepth 100000 in
theorem lc_missed (G : LG p s m c E b L xs) (hI : INV M N) (hl : lv_has ls 4 (LV b (ad 0) (bd 0) i)) (hi : i + 4 ≤ L) (hf : cells ≤ room_1.cells ∧ slots ≤ room_1.slots) (hP : va_P E.1 vwCl (wd E gC ad M ++ wd E gM bd N) H) (hD : va_D (Fr s) (wd E gC ad M ++ wd E gM bd N)) (hS : va_S (Fr s) s.heap H locs) (kk : LK p l e s m below meth c cells slots Q E ad bd b ls) : W p l e room_1 s m #[Value.ref b] below meth c H locs cells slots Q (F0 m 572 ls []) := by
  have X := G.1
  refine lv_aload_n X.1 X.2.1 dL_law_572 rfl (lv_at hl 1 rfl) ?_
  refine s_arg (k := 1) G hS hl (by omega) dL_law_573 dL_law_574 dL_law_575 dL_law_576 dL_law_577 ?_
  refine jC hP hD hS (va_runV (As := [cI (xv xs (i + 1))]) (rest := []) X (c_X7_missed gC_wf (o0 := 0) (x1 := xv xs (i + 1)) (by decide +kernel) (j_missed hI xv_in)) (cwV 1 X.2.2.2.2 gL_law_X7_missed rfl rfl rfl (by decide +kernel) ⟨Nat.le_of_ble_eq_true rfl, Nat.le_of_ble_eq_true rfl⟩) ((k_w (P_l hP) (D_l hD)).preV (ci := 7) G.2.1 (by decide +kernel) (by decide) rfl) rfl rfl hl.1 rfl (lv_room (Nat.le_of_ble_eq_true rfl)) dL_law_578 hf) (fun r M1 H locs hq hP hD hS => ?_)
  refine lv_aload_n X.1 X.2.1 dL_law_581 rfl (lv_at hl 2 rfl) ?_
  refine s_arg (k := 1) G hS hl (by omega) dL_law_582 dL_law_583 dL_law_584 dL_law_585 dL_law_586 ?_
  refine jM hP hD hS (va_runV (As := [cI (xv xs (i + 1))]) (rest := [cI r]) X (c_X8_missed gM_wf (o0 := 0) (x1 := xv xs (i + 1)) (by decide +kernel) hq) (cwV 1 X.2.2.2.2 gL_law_X8_missed rfl rfl rfl (by decide +kernel) ⟨Nat.le_of_ble_eq_true rfl, Nat.le_of_ble_eq_true rfl⟩) ((k_w (P_r hP) (D_r hD)).preV (ci := 8) G.2.1 (by decide +kernel) (by decide) rfl) rfl rfl hl.1 rfl (lv_room (Nat.le_of_ble_eq_true rfl)) dL_law_587 hf) (fun r2 N1 H locs hz hP hD hS => ?_)
  obtain ⟨rfl, hI⟩ := hz
  refine lv_icmp_eq (tgt := 654) X.1 X.2.1 dL_law_590 (by decide) (fun _ => ?_) (fun hne => absurd rfl hne)
  exact kk M1 N1 H locs hI hP hD hS
set_option maxHeartbeats 4000000 in
set_option maxRecDepth 100000 in
theorem lc_ifHands (G : LG p s m c E b L xs) (hI : INV M N) (hl : lv_has ls 4 (LV b (ad 0) (bd 0) i)) (hi : i + 4 ≤ L) (hf : cells ≤ room_1.cells ∧ slots ≤ room_1.slots) (hP : va_P E.1 vwCl (wd E gC ad M ++ wd E gM bd N) H) (hD : va_D (Fr s) (wd E gC ad M ++ wd E gM bd N)) (hS : va_S (Fr s) s.heap H locs) (kk : LK p l e s m below meth c cells slots Q E ad bd b ls) : W p l e room_1 s m #[Value.ref b] below meth c H locs cells slots Q (F0 m 595 ls []) := by
  have X := G.1
  refine lv_aload_n X.1 X.2.1 dL_law_595 rfl (lv_at hl 1 rfl) ?_
  refine s_arg (k := 1) G hS hl (by omega) dL_law_596 dL_law_597 dL_law_598 dL_law_599 dL_law_600 ?_
  refine jC hP hD hS (va_runV (As := [cI (xv xs (i + 1))]) (rest := []) X (c_X7_ifHands gC_wf (o0 := 0) (x1 := xv xs (i + 1)) (by decide +kernel) (j_ifHands hI xv_in)) (cwV 1 X.2.2.2.2 gL_law_X7_ifHands rfl rfl rfl (by decide +kernel) ⟨Nat.le_of_ble_eq_true rfl, Nat.le_of_ble_eq_true rfl⟩) ((k_w (P_l hP) (D_l hD)).preV (ci := 7) G.2.1 (by decide +kernel) (by decide) rfl) rfl rfl hl.1 rfl (lv_room (Nat.le_of_ble_eq_true rfl)) dL_law_601 hf) (fun r M1 H locs hq hP hD hS => ?_)
  refine lv_aload_n X.1 X.2.1 dL_law_604 rfl (lv_at hl 2 rfl) ?_
  refine s_arg (k := 1) G hS hl (by omega) dL_law_605 dL_law_606 dL_law_607 dL_law_608 dL_law_609 ?_
  refine jM hP hD hS (va_runV (As := [cI (xv xs (i + 1))]) (rest := [cI r]) X (c_X8_ifHands gM_wf (o0 := 0) (x1 := xv xs (i + 1)) (by decide +kernel) hq) (cwV 1 X.2.2.2.2 gL_law_X8_ifHands rfl rfl rfl (by decide +kernel) ⟨Nat.le_of_ble_eq_true rfl, Nat.le_of_ble_eq_true rfl⟩) ((k_w (P_r hP) (D_r hD)).preV (ci := 8) G.2.1 (by decide +kernel) (by decide) rfl) rfl rfl hl.1 rfl (lv_room (Nat.le_of_ble_eq_true rfl)) dL_law_610 hf) (fun r2 N1 H locs hz hP hD hS => ?_)
  obtain ⟨rfl, hI⟩ := hz
  refine lv_icmp_eq (tgt := 654) X.1 X.2.1 dL_law_613 (by decide) (fun _ => ?_) (fun hne => absurd rfl hne)
  exact kk M1 N1 H locs hI hP hD hS
set_option maxHeartbeats 4000000 in
set_option maxRecDepth 100000 in
theorem lc_cleanTakes (G : LG p s m c E b L xs) (hI : INV M N) (hl : lv_has ls 4 (LV b (ad 0) (bd 0) i)) (hi : i + 4 ≤ L) (hf : cells ≤ room_1.cells ∧ slots ≤ room_1.slots) (hP : va_P E.1 vwCl (wd E gC ad M ++ wd E gM bd N) H) (hD : va_D (Fr s) (wd E gC ad M ++ wd E gM bd N)) (hS : va_S (Fr s) s.heap H locs) (kk : LK p l e s m below meth c cells slots Q E ad bd b ls) : W p l e room_1 s m #[Value.ref b] below meth c H locs cells slots Q (F0 m 618 ls []) := by
  have X := G.1
  refine lv_aload_n X.1 X.2.1 dL_law_618 rfl (lv_at hl 1 rfl) ?_
  refine jC hP hD hS (va_runV (As := []) (rest := []) X (c_X7_cleanTakes gC_wf (o0 := 0) (by decide +kernel) (j_cleanTakes hI)) (cwV 0 X.2.2.2.2 gL_law_X7_cleanTakes rfl rfl rfl (by decide +kernel) ⟨Nat.le_of_ble_eq_true rfl, Nat.le_of_ble_eq_true rfl⟩) ((k_w (P_l hP) (D_l hD)).preV (ci := 7) G.2.1 (by decide +kernel) (by decide) rfl) rfl rfl hl.1 rfl (lv_room (Nat.le_of_ble_eq_true rfl)) dL_law_619 hf) (fun r M1 H locs hq hP hD hS => ?_)
  refine lv_aload_n X.1 X.2.1 dL_law_622 rfl (lv_at hl 2 rfl) ?_
  refine jM hP hD hS (va_runV (As := []) (rest := [cI r]) X (c_X8_cleanTakes gM_wf (o0 := 0) (by decide +kernel) hq) (cwV 0 X.2.2.2.2 gL_law_X8_cleanTakes rfl rfl rfl (by decide +kernel) ⟨Nat.le_of_ble_eq_true rfl, Nat.le_of_ble_eq_true rfl⟩) ((k_w (P_r hP) (D_r hD)).preV (ci := 8) G.2.1 (by decide +kernel) (by decide) rfl) rfl rfl hl.1 rfl (lv_room (Nat.le_of_ble_eq_true rfl)) dL_law_623 hf) (fun r2 N1 H locs hz hP hD hS => ?_)
  obtain ⟨rfl, hI⟩ := hz
  refine lv_icmp_eq (tgt := 654) X.1 X.2.1 dL_law_626 (by decide) (fun _ => ?_) (fun hne => absurd rfl hne)
  exact kk M1 N1 H locs hI hP hD hS
set_option maxHeartbeats 4000000 in
set_option maxRecDepth 100000 in
theorem lc_count (G : LG p s m c E b L xs) (hI : INV M N) (hl : lv_has ls 4 (LV b (ad 0) (bd 0) i)) (hi : i + 4 ≤ L) (hf : cells ≤ room_1.cells ∧ slots ≤ room_1.slots) (hP : va_P E.1 vwCl (wd E gC ad M ++ wd E gM bd N) H) (hD : va_D (Fr s) (wd E gC ad M ++ wd E gM bd N)) (hS : va_S (Fr s) s.heap H locs) (kk : LK p l e s m below meth c cells slots Q E ad bd b ls) : W p l e room_1 s m #[Value.ref b] below meth c H locs cells slots Q (F0 m 631 ls []) := by
  have X := G.1
  refine lv_aload_n X.1 X.2.1 dL_law_631 rfl (lv_at hl 1 rfl) ?_
  refine s_arg (k := 1) G hS hl (by omega) dL_law_632 dL_law_633 dL_law_634 dL_law_635 dL_law_636 ?_
  refine jC hP hD hS (va_runV (As := [cI (xv xs (i + 1))]) (rest := []) X (c_X7_count gC_wf (o0 := 0) (x1 := xv xs (i + 1)) (by decide +kernel) (j_count hI xv_in)) (cwV 1 X.2.2.2.2 gL_law_X7_count rfl rfl rfl (by decide +kernel) ⟨Nat.le_of_ble_eq_true rfl, Nat.le_of_ble_eq_true rfl⟩) ((k_w (P_l hP) (D_l hD)).preV (ci := 7) G.2.1 (by decide +kernel) (by decide) rfl) rfl rfl hl.1 rfl (lv_room (Nat.le_of_ble_eq_true rfl)) dL_law_637 hf) (fun r M1 H locs hq hP hD hS => ?_)
  refine lv_aload_n X.1 X.2.1 dL_law_640 rfl (lv_at hl 2 rfl) ?_
  refine s_arg (k := 1) G hS hl (by omega) dL_law_641 dL_law_642 dL_law_643 dL_law_644 dL_law_645 ?_
  refine jM hP hD hS (va_runV (As := [cI (xv xs (i + 1))]) (rest := [cI r]) X (c_X8_count gM_wf (o0 := 0) (x1 := xv xs (i + 1)) (by decide +kernel) hq) (cwV 1 X.2.2.2.2 gL_law_X8_count rfl rfl rfl (by decide +kernel) ⟨Nat.le_of_ble_eq_true rfl, Nat.le_of_ble_eq_true rfl⟩) ((k_w (P_r hP) (D_r hD)).preV (ci := 8) G.2.1 (by decide +kernel) (by decide) rfl) rfl rfl hl.1 rfl (lv_room (Nat.le_of_ble_eq_true rfl)) dL_law_646 hf) (fun r2 N1 H locs hz hP hD hS => ?_)
  obtain ⟨rfl, hI⟩ := hz
  refine lv_icmp_eq (tgt := 654) X.1 X.2.1 dL_law_649 (by decide) (fun _ => ?_) (fun hne => absurd rfl hne)
  exact kk M1 N1 H locs hI hP hD hS
end
