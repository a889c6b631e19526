/-! contracts of the methods, by gen.py: X8_isCue, X8_isScene, X8_isSound, X8_rankOf, X8_rankAt, X8_takesOut, X8_putsIn, X8_cuesOf, X8_apart, X8_handFor, X8_isThere -/
theorem dX8_isCue_0 : decode cX8_isCue 0 = .ok (.iload_n 1, 1) := by decide +kernel
theorem dX8_isCue_1 : decode cX8_isCue 1 = .ok (.i2l, 1) := by decide +kernel
theorem dX8_isCue_2 : decode cX8_isCue 2 = .ok (.lconst 0, 1) := by decide +kernel
theorem dX8_isCue_3 : decode cX8_isCue 3 = .ok (.aload_n 0, 1) := by decide +kernel
theorem dX8_isCue_4 : decode cX8_isCue 4 = .ok (.getfield 7, 3) := by decide +kernel
theorem dX8_isCue_7 : decode cX8_isCue 7 = .ok (.bipush 36, 2) := by decide +kernel
theorem dX8_isCue_9 : decode cX8_isCue 9 = .ok (.iaload, 1) := by decide +kernel
theorem dX8_isCue_10 : decode cX8_isCue 10 = .ok (.i2l, 1) := by decide +kernel
theorem dX8_isCue_11 : decode cX8_isCue 11 = .ok (.lconst 1, 1) := by decide +kernel
theorem dX8_isCue_12 : decode cX8_isCue 12 = .ok (.lsub, 1) := by decide +kernel
theorem dX8_isCue_13 : decode cX8_isCue 13 = .ok (.invokestatic 69, 3) := by decide +kernel
theorem dX8_isCue_16 : decode cX8_isCue 16 = .ok (.ireturn, 1) := by decide +kernel
set_option maxRecDepth 20000 in
theorem ggX8_isCue_X8_in : GoodIn wsX8_isCue wsX8_in := goodIn_r _ [5] (by decide +kernel) (by decide +kernel)
set_option maxRecDepth 20000 in
theorem gX8_isCue_X8_in : GoodIn wsX8_isCue (va_wsS RX8 69 yX8_in wsX8_in) := goodIn_app (goodIn_of _ (by decide +kernel)) ggX8_isCue_X8_in
theorem iX8_isCue_8 : ∀ w ∈ u_ws RX8 TX8 25, w ∈ wsX8_isCue := fun w h => List.mem_cons_of_mem _ (List.mem_append_right _ (h))
set_option maxHeartbeats 4000000 in
set_option maxRecDepth 100000 in
theorem c_X8_isCue {E : EE} {l : Launch} {g : GG} {ad : Nat → Nat} (hg : gwf g) {o0 : Nat} {x1 : Int} {M : Mm} {Q : Int → Mm → Prop} (k_o0 : gk g o0 = 8) (h : p_X8_isCue g o0 x1 M Q) : Ct E l yX8_isCue wsX8_isCue rmX8_isCue g ad [.ref (ad o0), cI x1] M (QI E g ad Q) := by
  refine ent (cc := cX8_isCue) (maxL := 2) (ret := (some .boolean)) (own := RX8) (by decide +kernel) rfl rfl (Nat.le_of_ble_eq_true rfl) ?_
  intro p e s m below meth c ls X hr hlk K w hl
  have hl : lv_has ls 2 [(0, .ref (ad o0)), (1, cI x1)] := hl
  unfold p_X8_isCue at h
  refine lv_iload_n X.1 X.2.1 dX8_isCue_0 rfl (lv_at hl 1 rfl) ?_
  obtain ⟨i0, h⟩ := h
  refine r_i2l X i0 dX8_isCue_1 ?_
  refine r_lconst (v := 0) X dX8_isCue_2 (by decide +kernel) ?_
  refine lv_aload_n X.1 X.2.1 dX8_isCue_3 rfl (lv_at hl 0 rfl) ?_
  refine r_getr (N := 25) (T := TX8) X K w iX8_isCue_8 k_o0 rfl (by decide) 0 (by decide) rfl rfl (List.mem_of_getElem? (i := 1) rfl) dX8_isCue_4 ?_
  have k1 : gk g (o0 + 1) = 9 := gch hg k_o0 (by decide) 0 (by decide) rfl rfl
  refine r_bipush X dX8_isCue_7 (by decide +kernel) ?_
  obtain ⟨b1, h⟩ := h
  refine r_iald X K w hg k1 (by decide) b1 dX8_isCue_9 ?_
  obtain ⟨i0, h⟩ := h
  refine r_i2l X i0 dX8_isCue_10 ?_
  refine r_lconst (v := 1) X dX8_isCue_11 (by decide +kernel) ?_
  refine r_lsub X dX8_isCue_12 ?_
  refine q_i (x_S (As := [cL x1, cL 0, cL ((M (o0 + 1) 36) - 1)]) (rest := []) X K w (c_X8_in hg h) (va_cwS 3 X.2.2.2.2 gX8_isCue_X8_in rfl rfl rfl (by decide +kernel) ⟨Nat.le_of_ble_eq_true rfl, Nat.le_of_ble_eq_true rfl⟩) rfl hl rfl (Nat.le_of_ble_eq_true rfl) dX8_isCue_13 ⟨Nat.le_of_ble_eq_true rfl, Nat.le_of_ble_eq_true rfl⟩) w (fun r3 M2 H locs h w => ?_)
  exact r_zreturn X hr hlk K w (nz h.1) h.2 dX8_isCue_16
theorem dX8_isScene_0 : decode cX8_isScene 0 = .ok (.iload_n 0, 1) := by decide +kernel
theorem dX8_isScene_1 : decode cX8_isScene 1 = .ok (.i2l, 1) := by decide +kernel
theorem dX8_isScene_2 : decode cX8_isScene 2 = .ok (.lconst 0, 1) := by decide +kernel
theorem dX8_isScene_3 : decode cX8_isScene 3 = .ok (.ldc2_w 73, 3) := by decide +kernel
theorem dX8_isScene_6 : decode cX8_isScene 6 = .ok (.invokestatic 69, 3) := by decide +kernel
theorem dX8_isScene_9 : decode cX8_isScene 9 = .ok (.ireturn, 1) := by decide +kernel
set_option maxRecDepth 20000 in
theorem ggX8_isScene_X8_in : GoodIn wsX8_isScene wsX8_in := goodIn_r _ [5] (by decide +kernel) (by decide +kernel)
set_option maxRecDepth 20000 in
theorem gX8_isScene_X8_in : GoodIn wsX8_isScene (va_wsS RX8 69 yX8_in wsX8_in) := goodIn_app (goodIn_of _ (by decide +kernel)) ggX8_isScene_X8_in
set_option maxHeartbeats 4000000 in
set_option maxRecDepth 100000 in
theorem c_X8_isScene {E : EE} {l : Launch} {g : GG} {ad : Nat → Nat} (hg : gwf g) {x0 : Int} {M : Mm} {Q : Int → Mm → Prop} (h : p_X8_isScene g x0 M Q) : Ct E l yX8_isScene wsX8_isScene rmX8_isScene g ad [cI x0] M (QI E g ad Q) := by
  refine ent (cc := cX8_isScene) (maxL := 1) (ret := (some .boolean)) (own := RX8) (by decide +kernel) rfl rfl (Nat.le_of_ble_eq_true rfl) ?_
  intro p e s m below meth c ls X hr hlk K w hl
  have hl : lv_has ls 1 [(0, cI x0)] := hl
  unfold p_X8_isScene at h
  refine lv_iload_n X.1 X.2.1 dX8_isScene_0 rfl (lv_at hl 0 rfl) ?_
  obtain ⟨i0, h⟩ := h
  refine r_i2l X i0 dX8_isScene_1 ?_
  refine r_lconst (v := 0) X dX8_isScene_2 (by decide +kernel) ?_
  refine r_ldc2 (v := 5) X (List.mem_of_getElem? (i := 1) rfl) dX8_isScene_3 ?_
  refine q_i (x_S (As := [cL x0, cL 0, cL 5]) (rest := []) X K w (c_X8_in hg h) (va_cwS 3 X.2.2.2.2 gX8_isScene_X8_in rfl rfl rfl (by decide +kernel) ⟨Nat.le_of_ble_eq_true rfl, Nat.le_of_ble_eq_true rfl⟩) rfl hl rfl (Nat.le_of_ble_eq_true rfl) dX8_isScene_6 ⟨Nat.le_of_ble_eq_true rfl, Nat.le_of_ble_eq_true rfl⟩) w (fun r2 M1 H locs h w => ?_)
  exact r_zreturn X hr hlk K w (nz h.1) h.2 dX8_isScene_9
theorem dX8_isSound_0 : decode cX8_isSound 0 = .ok (.iload_n 0, 1) := by decide +kernel
theorem dX8_isSound_1 : decode cX8_isSound 1 = .ok (.i2l, 1) := by decide +kernel
theorem dX8_isSound_2 : decode cX8_isSound 2 = .ok (.lconst 0, 1) := by decide +kernel
theorem dX8_isSound_3 : decode cX8_isSound 3 = .ok (.ldc2_w 75, 3) := by decide +kernel
theorem dX8_isSound_6 : decode cX8_isSound 6 = .ok (.invokestatic 69, 3) := by decide +kernel
theorem dX8_isSound_9 : decode cX8_isSound 9 = .ok (.ireturn, 1) := by decide +kernel
set_option maxRecDepth 20000 in
theorem ggX8_isSound_X8_in : GoodIn wsX8_isSound wsX8_in := goodIn_r _ [5] (by decide +kernel) (by decide +kernel)
set_option maxRecDepth 20000 in
theorem gX8_isSound_X8_in : GoodIn wsX8_isSound (va_wsS RX8 69 yX8_in wsX8_in) := goodIn_app (goodIn_of _ (by decide +kernel)) ggX8_isSound_X8_in
set_option maxHeartbeats 4000000 in
set_option maxRecDepth 100000 in
theorem c_X8_isSound {E : EE} {l : Launch} {g : GG} {ad : Nat → Nat} (hg : gwf g) {x0 : Int} {M : Mm} {Q : Int → Mm → Prop} (h : p_X8_isSound g x0 M Q) : Ct E l yX8_isSound wsX8_isSound rmX8_isSound g ad [cI x0] M (QI E g ad Q) := by
  refine ent (cc := cX8_isSound) (maxL := 1) (ret := (some .boolean)) (own := RX8) (by decide +kernel) rfl rfl (Nat.le_of_ble_eq_true rfl) ?_
  intro p e s m below meth c ls X hr hlk K w hl
  have hl : lv_has ls 1 [(0, cI x0)] := hl
  unfold p_X8_isSound at h
  refine lv_iload_n X.1 X.2.1 dX8_isSound_0 rfl (lv_at hl 0 rfl) ?_
  obtain ⟨i0, h⟩ := h
  refine r_i2l X i0 dX8_isSound_1 ?_
  refine r_lconst (v := 0) X dX8_isSound_2 (by decide +kernel) ?_
  refine r_ldc2 (v := 9) X (List.mem_of_getElem? (i := 1) rfl) dX8_isSound_3 ?_
  refine q_i (x_S (As := [cL x0, cL 0, cL 9]) (rest := []) X K w (c_X8_in hg h) (va_cwS 3 X.2.2.2.2 gX8_isSound_X8_in rfl rfl rfl (by decide +kernel) ⟨Nat.le_of_ble_eq_true rfl, Nat.le_of_ble_eq_true rfl⟩) rfl hl rfl (Nat.le_of_ble_eq_true rfl) dX8_isSound_6 ⟨Nat.le_of_ble_eq_true rfl, Nat.le_of_ble_eq_true rfl⟩) w (fun r2 M1 H locs h w => ?_)
  exact r_zreturn X hr hlk K w (nz h.1) h.2 dX8_isSound_9
theorem dX8_rankOf_0 : decode cX8_rankOf 0 = .ok (.iload_n 0, 1) := by decide +kernel
theorem dX8_rankOf_1 : decode cX8_rankOf 1 = .ok (.bipush 6, 2) := by decide +kernel
theorem dX8_rankOf_3 : decode cX8_rankOf 3 = .ok (.imul, 1) := by decide +kernel
theorem dX8_rankOf_4 : decode cX8_rankOf 4 = .ok (.iload_n 1, 1) := by decide +kernel
theorem dX8_rankOf_5 : decode cX8_rankOf 5 = .ok (.iadd, 1) := by decide +kernel
theorem dX8_rankOf_6 : decode cX8_rankOf 6 = .ok (.bipush 10, 2) := by decide +kernel
theorem dX8_rankOf_8 : decode cX8_rankOf 8 = .ok (.imul, 1) := by decide +kernel
theorem dX8_rankOf_9 : decode cX8_rankOf 9 = .ok (.iload_n 2, 1) := by decide +kernel
theorem dX8_rankOf_10 : decode cX8_rankOf 10 = .ok (.iadd, 1) := by decide +kernel
theorem dX8_rankOf_11 : decode cX8_rankOf 11 = .ok (.ireturn, 1) := by decide +kernel
set_option maxHeartbeats 4000000 in
set_option maxRecDepth 100000 in
theorem c_X8_rankOf {E : EE} {l : Launch} {g : GG} {ad : Nat → Nat} (hg : gwf g) {x0 : Int} {x1 : Int} {x2 : Int} {M : Mm} {Q : Int → Mm → Prop} (h : p_X8_rankOf g x0 x1 x2 M Q) : Ct E l yX8_rankOf wsX8_rankOf rmX8_rankOf g ad [cI x0, cI x1, cI x2] M (QI E g ad Q) := by
  refine ent (cc := cX8_rankOf) (maxL := 3) (ret := (some .int)) (own := RX8) (by decide +kernel) rfl rfl (Nat.le_of_ble_eq_true rfl) ?_
  intro p e s m below meth c ls X hr hlk K w hl
  have hl : lv_has ls 3 [(0, cI x0), (1, cI x1), (2, cI x2)] := hl
  unfold p_X8_rankOf at h
  refine lv_iload_n X.1 X.2.1 dX8_rankOf_0 rfl (lv_at hl 0 rfl) ?_
  refine r_bipush X dX8_rankOf_1 (by decide +kernel) ?_
  refine r_imul X dX8_rankOf_3 ?_
  refine lv_iload_n X.1 X.2.1 dX8_rankOf_4 rfl (lv_at hl 1 rfl) ?_
  refine r_iadd X dX8_rankOf_5 ?_
  refine r_bipush X dX8_rankOf_6 (by decide +kernel) ?_
  refine r_imul X dX8_rankOf_8 ?_
  refine lv_iload_n X.1 X.2.1 dX8_rankOf_9 rfl (lv_at hl 2 rfl) ?_
  refine r_iadd X dX8_rankOf_10 ?_
  exact r_ireturn X hr hlk K w h dX8_rankOf_11
theorem dX8_rankAt_0 : decode cX8_rankAt 0 = .ok (.aload_n 0, 1) := by decide +kernel
theorem dX8_rankAt_1 : decode cX8_rankAt 1 = .ok (.iload_n 1, 1) := by decide +kernel
theorem dX8_rankAt_2 : decode cX8_rankAt 2 = .ok (.iconst 1, 1) := by decide +kernel
theorem dX8_rankAt_3 : decode cX8_rankAt 3 = .ok (.invokevirtual 77, 3) := by decide +kernel
theorem dX8_rankAt_6 : decode cX8_rankAt 6 = .ok (.aload_n 0, 1) := by decide +kernel
theorem dX8_rankAt_7 : decode cX8_rankAt 7 = .ok (.iload_n 1, 1) := by decide +kernel
theorem dX8_rankAt_8 : decode cX8_rankAt 8 = .ok (.iconst 0, 1) := by decide +kernel
theorem dX8_rankAt_9 : decode cX8_rankAt 9 = .ok (.invokevirtual 77, 3) := by decide +kernel
theorem dX8_rankAt_12 : decode cX8_rankAt 12 = .ok (.aload_n 0, 1) := by decide +kernel
theorem dX8_rankAt_13 : decode cX8_rankAt 13 = .ok (.iload_n 1, 1) := by decide +kernel
theorem dX8_rankAt_14 : decode cX8_rankAt 14 = .ok (.iconst 2, 1) := by decide +kernel
theorem dX8_rankAt_15 : decode cX8_rankAt 15 = .ok (.invokevirtual 77, 3) := by decide +kernel
theorem dX8_rankAt_18 : decode cX8_rankAt 18 = .ok (.invokestatic 81, 3) := by decide +kernel
theorem dX8_rankAt_21 : decode cX8_rankAt 21 = .ok (.ireturn, 1) := by decide +kernel
set_option maxRecDepth 20000 in
theorem ggX8_rankAt_X8_of : GoodIn wsX8_rankAt wsX8_of := goodIn_r _ [5, 6, 10, 11, 12, 13, 14, 15, 16, 17, 18, 19, 20, 21, 22, 23, 24, 25, 26, 27, 28, 29, 30, 31, 32, 33, 34] (by decide +kernel) (by decide +kernel)
set_option maxRecDepth 20000 in
theorem gX8_rankAt_X8_of : GoodIn wsX8_rankAt (wsV RX8 77 RX8 yX8_of wsX8_of) := goodIn_app (goodIn_of _ (by decide +kernel)) ggX8_rankAt_X8_of
set_option maxRecDepth 20000 in
theorem ggX8_rankAt_X8_rankOf : GoodIn wsX8_rankAt wsX8_rankOf := goodIn_r _ [9] (by decide +kernel) (by decide +kernel)
set_option maxRecDepth 20000 in
theorem gX8_rankAt_X8_rankOf : GoodIn wsX8_rankAt (va_wsS RX8 81 yX8_rankOf wsX8_rankOf) := goodIn_app (goodIn_of _ (by decide +kernel)) ggX8_rankAt_X8_rankOf
set_option maxHeartbeats 4000000 in
set_option maxRecDepth 100000 in
theorem c_X8_rankAt {E : EE} {l : Launch} {g : GG} {ad : Nat → Nat} (hg : gwf g) {o0 : Nat} {x1 : Int} {M : Mm} {Q : Int → Mm → Prop} (k_o0 : gk g o0 = 8) (h : p_X8_rankAt g o0 x1 M Q) : Ct E l yX8_rankAt wsX8_rankAt rmX8_rankAt g ad [.ref (ad o0), cI x1] M (QI E g ad Q) := by
  refine ent (cc := cX8_rankAt) (maxL := 2) (ret := (some .int)) (own := RX8) (by decide +kernel) rfl rfl (Nat.le_of_ble_eq_true rfl) ?_
  intro p e s m below meth c ls X hr hlk K w hl
  have hl : lv_has ls 2 [(0, .ref (ad o0)), (1, cI x1)] := hl
  unfold p_X8_rankAt at h
  refine lv_aload_n X.1 X.2.1 dX8_rankAt_0 rfl (lv_at hl 0 rfl) ?_
  refine lv_iload_n X.1 X.2.1 dX8_rankAt_1 rfl (lv_at hl 1 rfl) ?_
  refine r_iconst X dX8_rankAt_2 ?_
  refine q_i (x_V (As := [cI x1, cI 1]) (rest := []) X K w (c_X8_of hg k_o0 h) (cwV 2 X.2.2.2.2 gX8_rankAt_X8_of rfl rfl rfl (by decide +kernel) ⟨Nat.le_of_ble_eq_true rfl, Nat.le_of_ble_eq_true rfl⟩) k_o0 (by decide) rfl rfl hl rfl (Nat.le_of_ble_eq_true rfl) dX8_rankAt_3 ⟨Nat.le_of_ble_eq_true rfl, Nat.le_of_ble_eq_true rfl⟩) w (fun r2 M1 H locs h w => ?_)
  refine lv_aload_n X.1 X.2.1 dX8_rankAt_6 rfl (lv_at hl 0 rfl) ?_
  refine lv_iload_n X.1 X.2.1 dX8_rankAt_7 rfl (lv_at hl 1 rfl) ?_
  refine r_iconst X dX8_rankAt_8 ?_
  refine q_i (x_V (As := [cI x1, cI 0]) (rest := [cI r2]) X K w (c_X8_of hg k_o0 h) (cwV 2 X.2.2.2.2 gX8_rankAt_X8_of rfl rfl rfl (by decide +kernel) ⟨Nat.le_of_ble_eq_true rfl, Nat.le_of_ble_eq_true rfl⟩) k_o0 (by decide) rfl rfl hl rfl (Nat.le_of_ble_eq_true rfl) dX8_rankAt_9 ⟨Nat.le_of_ble_eq_true rfl, Nat.le_of_ble_eq_true rfl⟩) w (fun r4 M3 H locs h w => ?_)
  refine lv_aload_n X.1 X.2.1 dX8_rankAt_12 rfl (lv_at hl 0 rfl) ?_
  refine lv_iload_n X.1 X.2.1 dX8_rankAt_13 rfl (lv_at hl 1 rfl) ?_
  refine r_iconst X dX8_rankAt_14 ?_
  refine q_i (x_V (As := [cI x1, cI 2]) (rest := [cI r4, cI r2]) X K w (c_X8_of hg k_o0 h) (cwV 2 X.2.2.2.2 gX8_rankAt_X8_of rfl rfl rfl (by decide +kernel) ⟨Nat.le_of_ble_eq_true rfl, Nat.le_of_ble_eq_true rfl⟩) k_o0 (by decide) rfl rfl hl rfl (Nat.le_of_ble_eq_true rfl) dX8_rankAt_15 ⟨Nat.le_of_ble_eq_true rfl, Nat.le_of_ble_eq_true rfl⟩) w (fun r6 M5 H locs h w => ?_)
  refine q_i (x_S (As := [cI r2, cI r4, cI r6]) (rest := []) X K w (c_X8_rankOf hg h) (va_cwS 3 X.2.2.2.2 gX8_rankAt_X8_rankOf rfl rfl rfl (by decide +kernel) ⟨Nat.le_of_ble_eq_true rfl, Nat.le_of_ble_eq_true rfl⟩) rfl hl rfl (Nat.le_of_ble_eq_true rfl) dX8_rankAt_18 ⟨Nat.le_of_ble_eq_true rfl, Nat.le_of_ble_eq_true rfl⟩) w (fun r8 M7 H locs h w => ?_)
  exact r_ireturn X hr hlk K w h dX8_rankAt_21
theorem dX8_takesOut_0 : decode cX8_takesOut 0 = .ok (.aload_n 0, 1) := by decide +kernel
theorem dX8_takesOut_1 : decode cX8_takesOut 1 = .ok (.getfield 7, 3) := by decide +kernel
theorem dX8_takesOut_4 : decode cX8_takesOut 4 = .ok (.bipush 36, 2) := by decide +kernel
theorem dX8_takesOut_6 : decode cX8_takesOut 6 = .ok (.dup2, 1) := by decide +kernel
theorem dX8_takesOut_7 : decode cX8_takesOut 7 = .ok (.iaload, 1) := by decide +kernel
theorem dX8_takesOut_8 : decode cX8_takesOut 8 = .ok (.iconst 1, 1) := by decide +kernel
theorem dX8_takesOut_9 : decode cX8_takesOut 9 = .ok (.isub, 1) := by decide +kernel
theorem dX8_takesOut_10 : decode cX8_takesOut 10 = .ok (.iastore, 1) := by decide +kernel
theorem dX8_takesOut_11 : decode cX8_takesOut 11 = .ok (.bipush 41, 2) := by decide +kernel
theorem dX8_takesOut_13 : decode cX8_takesOut 13 = .ok (.iconst 4, 1) := by decide +kernel
theorem dX8_takesOut_14 : decode cX8_takesOut 14 = .ok (.iload_n 1, 1) := by decide +kernel
theorem dX8_takesOut_15 : decode cX8_takesOut 15 = .ok (.imul, 1) := by decide +kernel
theorem dX8_takesOut_16 : decode cX8_takesOut 16 = .ok (.iadd, 1) := by decide +kernel
theorem dX8_takesOut_17 : decode cX8_takesOut 17 = .ok (.istore_n 2, 1) := by decide +kernel
theorem dX8_takesOut_18 : decode cX8_takesOut 18 = .ok (.iload_n 2, 1) := by decide +kernel
theorem dX8_takesOut_19 : decode cX8_takesOut 19 = .ok (.bipush 41, 2) := by decide +kernel
theorem dX8_takesOut_21 : decode cX8_takesOut 21 = .ok (.iconst 4, 1) := by decide +kernel
theorem dX8_takesOut_22 : decode cX8_takesOut 22 = .ok (.aload_n 0, 1) := by decide +kernel
theorem dX8_takesOut_23 : decode cX8_takesOut 23 = .ok (.getfield 7, 3) := by decide +kernel
theorem dX8_takesOut_26 : decode cX8_takesOut 26 = .ok (.bipush 36, 2) := by decide +kernel
theorem dX8_takesOut_28 : decode cX8_takesOut 28 = .ok (.iaload, 1) := by decide +kernel
theorem dX8_takesOut_29 : decode cX8_takesOut 29 = .ok (.imul, 1) := by decide +kernel
theorem dX8_takesOut_30 : decode cX8_takesOut 30 = .ok (.iadd, 1) := by decide +kernel
theorem dX8_takesOut_31 : decode cX8_takesOut 31 = .ok (.if_icmp .ge 23, 3) := by decide +kernel
theorem dX8_takesOut_34 : decode cX8_takesOut 34 = .ok (.aload_n 0, 1) := by decide +kernel
theorem dX8_takesOut_35 : decode cX8_takesOut 35 = .ok (.getfield 7, 3) := by decide +kernel
theorem dX8_takesOut_38 : decode cX8_takesOut 38 = .ok (.iload_n 2, 1) := by decide +kernel
theorem dX8_takesOut_39 : decode cX8_takesOut 39 = .ok (.aload_n 0, 1) := by decide +kernel
theorem dX8_takesOut_40 : decode cX8_takesOut 40 = .ok (.getfield 7, 3) := by decide +kernel
theorem dX8_takesOut_43 : decode cX8_takesOut 43 = .ok (.iload_n 2, 1) := by decide +kernel
theorem dX8_takesOut_44 : decode cX8_takesOut 44 = .ok (.iconst 4, 1) := by decide +kernel
theorem dX8_takesOut_45 : decode cX8_takesOut 45 = .ok (.iadd, 1) := by decide +kernel
theorem dX8_takesOut_46 : decode cX8_takesOut 46 = .ok (.iaload, 1) := by decide +kernel
theorem dX8_takesOut_47 : decode cX8_takesOut 47 = .ok (.iastore, 1) := by decide +kernel
theorem dX8_takesOut_48 : decode cX8_takesOut 48 = .ok (.iinc 2 1, 3) := by decide +kernel
theorem dX8_takesOut_51 : decode cX8_takesOut 51 = .ok (.goto (-33), 3) := by decide +kernel
theorem dX8_takesOut_54 : decode cX8_takesOut 54 = .ok (.return_, 1) := by decide +kernel
theorem iX8_takesOut_8 : ∀ w ∈ u_ws RX8 TX8 25, w ∈ wsX8_takesOut := fun w h => List.mem_cons_of_mem _ (List.mem_append_right _ (h))
set_option maxHeartbeats 4000000 in
set_option maxRecDepth 100000 in
theorem w_X8_takesOut_L18 {p : Program} {l : Launch} {e : Env} {s : State} {m : MethodId} {args : Array Value} {below : List Frame} {meth : Method} {c : Code} {E : EE} {g : GG} {ad : Nat → Nat} (hg : gwf g) (X : CallFix p m c cX8_takesOut 3 s args wsX8_takesOut RX8) (K : Kn E s) (hr : meth.sig.returnType = none) (hlk : meth.locks = false) {Q : Mm → Prop} : ∀ (n : Nat) (o0 : Nat) (x2 : Int) (M : Mm) (H : Heap) (locs : List Loc) (ls : Array Slot), gk g o0 = 8 → Rw E g ad M s.heap H locs → lv_has ls 3 [(0, .ref (ad o0)), (2, cI x2)] → p_X8_takesOut_L18 g n o0 x2 M Q → W p l e rmX8_takesOut s m args below meth c H locs 0 0 (MQ below (QV E g ad Q) args s 0 0 (Rg g ad)) (F0 m 18 ls []) := by
  intro n
  induction n with
  | zero =>
    intro o0 x2 M H locs ls k_o0 w hl h
    exact absurd h (by unfold p_X8_takesOut_L18; exact id)
  | succ n ih =>
    intro o0 x2 M H locs ls k_o0 w hl h
    unfold p_X8_takesOut_L18 at h
    refine lv_iload_n X.1 X.2.1 dX8_takesOut_18 rfl (lv_at hl 1 rfl) ?_
    refine r_bipush X dX8_takesOut_19 (by decide +kernel) ?_
    refine r_iconst X dX8_takesOut_21 ?_
    refine lv_aload_n X.1 X.2.1 dX8_takesOut_22 rfl (lv_at hl 0 rfl) ?_
    refine r_getr (N := 25) (T := TX8) X K w iX8_takesOut_8 k_o0 rfl (by decide) 0 (by decide) rfl rfl (List.mem_of_getElem? (i := 1) rfl) dX8_takesOut_23 ?_
    have k3 : gk g (o0 + 1) = 9 := gch hg k_o0 (by decide) 0 (by decide) rfl rfl
    refine r_bipush X dX8_takesOut_26 (by decide +kernel) ?_
    obtain ⟨b1, h⟩ := h
    refine r_iald X K w hg k3 (by decide) b1 dX8_takesOut_28 ?_
    refine r_imul X dX8_takesOut_29 ?_
    refine r_iadd X dX8_takesOut_30 ?_
    obtain ⟨i0, i1, h1, h2⟩ := h
    refine r_icmp_ge (tgt := 54) X i0 i1 dX8_takesOut_31 (by decide) (fun cc => ?_) (fun cc => ?_)
    · have h := h1 cc
      exact r_return X hr hlk K w h dX8_takesOut_54
    · have h := h2 cc
      refine lv_aload_n X.1 X.2.1 dX8_takesOut_34 rfl (lv_at hl 0 rfl) ?_
      refine r_getr (N := 25) (T := TX8) X K w iX8_takesOut_8 k_o0 rfl (by decide) 0 (by decide) rfl rfl (List.mem_of_getElem? (i := 1) rfl) dX8_takesOut_35 ?_
      have k4 : gk g (o0 + 1) = 9 := gch hg k_o0 (by decide) 0 (by decide) rfl rfl
      refine lv_iload_n X.1 X.2.1 dX8_takesOut_38 rfl (lv_at hl 1 rfl) ?_
      refine lv_aload_n X.1 X.2.1 dX8_takesOut_39 rfl (lv_at hl 0 rfl) ?_
      refine r_getr (N := 25) (T := TX8) X K w iX8_takesOut_8 k_o0 rfl (by decide) 0 (by decide) rfl rfl (List.mem_of_getElem? (i := 1) rfl) dX8_takesOut_40 ?_
      have k5 : gk g (o0 + 1) = 9 := gch hg k_o0 (by decide) 0 (by decide) rfl rfl
      refine lv_iload_n X.1 X.2.1 dX8_takesOut_43 rfl (lv_at hl 1 rfl) ?_
      refine r_iconst X dX8_takesOut_44 ?_
      refine r_iadd X dX8_takesOut_45 ?_
      obtain ⟨b0, b1, h⟩ := h
      refine r_iald X K w hg k5 b0 b1 dX8_takesOut_46 ?_
      obtain ⟨b0, b1, h⟩ := h
      refine r_iast X K w hg k4 b0 b1 dX8_takesOut_47 (fun M6 H locs e w => ?_)
      replace h := h M6 e
      refine r_iinc (lv' := [(2, cI (x2 + 1)), (0, .ref (ad o0))]) X hl (k := 1) rfl (by decide) dX8_takesOut_48 rfl (fun ls hl => ?_)
      refine lv_goto (tgt := 18) X.1 X.2.1 dX8_takesOut_51 (by decide) ?_
      exact ih o0 (x2 + 1) M6 _ _ _ k_o0 w (lv_sub hl [1, 0] rfl) h
set_option maxHeartbeats 4000000 in
set_option maxRecDepth 100000 in
theorem c_X8_takesOut {E : EE} {l : Launch} {g : GG} {ad : Nat → Nat} (hg : gwf g) {o0 : Nat} {x1 : Int} {M : Mm} {Q : Mm → Prop} (k_o0 : gk g o0 = 8) (h : p_X8_takesOut g o0 x1 M Q) : Ct E l yX8_takesOut wsX8_takesOut rmX8_takesOut g ad [.ref (ad o0), cI x1] M (QV E g ad Q) := by
  refine ent (cc := cX8_takesOut) (maxL := 3) (ret := none) (own := RX8) (by decide +kernel) rfl rfl (Nat.le_of_ble_eq_true rfl) ?_
  intro p e s m below meth c ls X hr hlk K w hl
  have hl : lv_has ls 3 [(0, .ref (ad o0)), (1, cI x1)] := hl
  unfold p_X8_takesOut at h
  refine lv_aload_n X.1 X.2.1 dX8_takesOut_0 rfl (lv_at hl 0 rfl) ?_
  refine r_getr (N := 25) (T := TX8) X K w iX8_takesOut_8 k_o0 rfl (by decide) 0 (by decide) rfl rfl (List.mem_of_getElem? (i := 1) rfl) dX8_takesOut_1 ?_
  have k1 : gk g (o0 + 1) = 9 := gch hg k_o0 (by decide) 0 (by decide) rfl rfl
  refine r_bipush X dX8_takesOut_4 (by decide +kernel) ?_
  refine lv_dup2_11 X.1 X.2.1 dX8_takesOut_6 rfl rfl ?_
  obtain ⟨b1, h⟩ := h
  refine r_iald X K w hg k1 (by decide) b1 dX8_takesOut_7 ?_
  refine r_iconst X dX8_takesOut_8 ?_
  refine r_isub X dX8_takesOut_9 ?_
  obtain ⟨b1, h⟩ := h
  refine r_iast X K w hg k1 (by decide) b1 dX8_takesOut_10 (fun M2 H locs e w => ?_)
  replace h := h M2 e
  refine r_bipush X dX8_takesOut_11 (by decide +kernel) ?_
  refine r_iconst X dX8_takesOut_13 ?_
  refine lv_iload_n X.1 X.2.1 dX8_takesOut_14 rfl (lv_at hl 1 rfl) ?_
  refine r_imul X dX8_takesOut_15 ?_
  refine r_iadd X dX8_takesOut_16 ?_
  refine lv_istore_n (lv' := [(2, cI (41 + (4 * x1))), (0, .ref (ad o0)), (1, cI x1)]) X.1 X.2.1 dX8_takesOut_17 rfl hl (by decide) rfl (fun ls hl => ?_)
  obtain ⟨n7, h⟩ := h
  exact w_X8_takesOut_L18 hg X K hr hlk n7 o0 (41 + (4 * x1)) M2 _ _ _ k_o0 w (lv_sub hl [1, 0] rfl) h
theorem dX8_putsIn_0 : decode cX8_putsIn 0 = .ok (.iconst 0, 1) := by decide +kernel
theorem dX8_putsIn_1 : decode cX8_putsIn 1 = .ok (.istore 5, 2) := by decide +kernel
theorem dX8_putsIn_3 : decode cX8_putsIn 3 = .ok (.iload 5, 2) := by decide +kernel
theorem dX8_putsIn_5 : decode cX8_putsIn 5 = .ok (.aload_n 0, 1) := by decide +kernel
theorem dX8_putsIn_6 : decode cX8_putsIn 6 = .ok (.getfield 7, 3) := by decide +kernel
theorem dX8_putsIn_9 : decode cX8_putsIn 9 = .ok (.bipush 36, 2) := by decide +kernel
theorem dX8_putsIn_11 : decode cX8_putsIn 11 = .ok (.iaload, 1) := by decide +kernel
theorem dX8_putsIn_12 : decode cX8_putsIn 12 = .ok (.if_icmp .ge 24, 3) := by decide +kernel
theorem dX8_putsIn_15 : decode cX8_putsIn 15 = .ok (.aload_n 0, 1) := by decide +kernel
theorem dX8_putsIn_16 : decode cX8_putsIn 16 = .ok (.iload 5, 2) := by decide +kernel
theorem dX8_putsIn_18 : decode cX8_putsIn 18 = .ok (.invokevirtual 85, 3) := by decide +kernel
theorem dX8_putsIn_21 : decode cX8_putsIn 21 = .ok (.iload_n 2, 1) := by decide +kernel
theorem dX8_putsIn_22 : decode cX8_putsIn 22 = .ok (.iload_n 1, 1) := by decide +kernel
theorem dX8_putsIn_23 : decode cX8_putsIn 23 = .ok (.iload_n 3, 1) := by decide +kernel
theorem dX8_putsIn_24 : decode cX8_putsIn 24 = .ok (.invokestatic 81, 3) := by decide +kernel
theorem dX8_putsIn_27 : decode cX8_putsIn 27 = .ok (.if_icmp .ge 9, 3) := by decide +kernel
theorem dX8_putsIn_30 : decode cX8_putsIn 30 = .ok (.iinc 5 1, 3) := by decide +kernel
theorem dX8_putsIn_33 : decode cX8_putsIn 33 = .ok (.goto (-30), 3) := by decide +kernel
theorem dX8_putsIn_36 : decode cX8_putsIn 36 = .ok (.bipush 41, 2) := by decide +kernel
theorem dX8_putsIn_38 : decode cX8_putsIn 38 = .ok (.iconst 4, 1) := by decide +kernel
theorem dX8_putsIn_39 : decode cX8_putsIn 39 = .ok (.aload_n 0, 1) := by decide +kernel
theorem dX8_putsIn_40 : decode cX8_putsIn 40 = .ok (.getfield 7, 3) := by decide +kernel
theorem dX8_putsIn_43 : decode cX8_putsIn 43 = .ok (.bipush 36, 2) := by decide +kernel
theorem dX8_putsIn_45 : decode cX8_putsIn 45 = .ok (.iaload, 1) := by decide +kernel
theorem dX8_putsIn_46 : decode cX8_putsIn 46 = .ok (.imul, 1) := by decide +kernel
theorem dX8_putsIn_47 : decode cX8_putsIn 47 = .ok (.iadd, 1) := by decide +kernel
theorem dX8_putsIn_48 : decode cX8_putsIn 48 = .ok (.iconst 1, 1) := by decide +kernel
theorem dX8_putsIn_49 : decode cX8_putsIn 49 = .ok (.isub, 1) := by decide +kernel
theorem dX8_putsIn_50 : decode cX8_putsIn 50 = .ok (.istore 6, 2) := by decide +kernel
theorem dX8_putsIn_52 : decode cX8_putsIn 52 = .ok (.iload 6, 2) := by decide +kernel
theorem dX8_putsIn_54 : decode cX8_putsIn 54 = .ok (.bipush 41, 2) := by decide +kernel
theorem dX8_putsIn_56 : decode cX8_putsIn 56 = .ok (.iconst 4, 1) := by decide +kernel
theorem dX8_putsIn_57 : decode cX8_putsIn 57 = .ok (.iload 5, 2) := by decide +kernel
theorem dX8_putsIn_59 : decode cX8_putsIn 59 = .ok (.imul, 1) := by decide +kernel
theorem dX8_putsIn_60 : decode cX8_putsIn 60 = .ok (.iadd, 1) := by decide +kernel
theorem dX8_putsIn_61 : decode cX8_putsIn 61 = .ok (.if_icmp .lt 25, 3) := by decide +kernel
theorem dX8_putsIn_64 : decode cX8_putsIn 64 = .ok (.aload_n 0, 1) := by decide +kernel
theorem dX8_putsIn_65 : decode cX8_putsIn 65 = .ok (.getfield 7, 3) := by decide +kernel
theorem dX8_putsIn_68 : decode cX8_putsIn 68 = .ok (.iload 6, 2) := by decide +kernel
theorem dX8_putsIn_70 : decode cX8_putsIn 70 = .ok (.iconst 4, 1) := by decide +kernel
theorem dX8_putsIn_71 : decode cX8_putsIn 71 = .ok (.iadd, 1) := by decide +kernel
theorem dX8_putsIn_72 : decode cX8_putsIn 72 = .ok (.aload_n 0, 1) := by decide +kernel
theorem dX8_putsIn_73 : decode cX8_putsIn 73 = .ok (.getfield 7, 3) := by decide +kernel
theorem dX8_putsIn_76 : decode cX8_putsIn 76 = .ok (.iload 6, 2) := by decide +kernel
theorem dX8_putsIn_78 : decode cX8_putsIn 78 = .ok (.iaload, 1) := by decide +kernel
theorem dX8_putsIn_79 : decode cX8_putsIn 79 = .ok (.iastore, 1) := by decide +kernel
theorem dX8_putsIn_80 : decode cX8_putsIn 80 = .ok (.iinc 6 (-1), 3) := by decide +kernel
theorem dX8_putsIn_83 : decode cX8_putsIn 83 = .ok (.goto (-31), 3) := by decide +kernel
theorem dX8_putsIn_86 : decode cX8_putsIn 86 = .ok (.aload_n 0, 1) := by decide +kernel
theorem dX8_putsIn_87 : decode cX8_putsIn 87 = .ok (.getfield 7, 3) := by decide +kernel
theorem dX8_putsIn_90 : decode cX8_putsIn 90 = .ok (.bipush 36, 2) := by decide +kernel
theorem dX8_putsIn_92 : decode cX8_putsIn 92 = .ok (.dup2, 1) := by decide +kernel
theorem dX8_putsIn_93 : decode cX8_putsIn 93 = .ok (.iaload, 1) := by decide +kernel
theorem dX8_putsIn_94 : decode cX8_putsIn 94 = .ok (.iconst 1, 1) := by decide +kernel
theorem dX8_putsIn_95 : decode cX8_putsIn 95 = .ok (.iadd, 1) := by decide +kernel
theorem dX8_putsIn_96 : decode cX8_putsIn 96 = .ok (.iastore, 1) := by decide +kernel
theorem dX8_putsIn_97 : decode cX8_putsIn 97 = .ok (.aload_n 0, 1) := by decide +kernel
theorem dX8_putsIn_98 : decode cX8_putsIn 98 = .ok (.getfield 7, 3) := by decide +kernel
theorem dX8_putsIn_101 : decode cX8_putsIn 101 = .ok (.bipush 41, 2) := by decide +kernel
theorem dX8_putsIn_103 : decode cX8_putsIn 103 = .ok (.iconst 4, 1) := by decide +kernel
theorem dX8_putsIn_104 : decode cX8_putsIn 104 = .ok (.iload 5, 2) := by decide +kernel
theorem dX8_putsIn_106 : decode cX8_putsIn 106 = .ok (.imul, 1) := by decide +kernel
theorem dX8_putsIn_107 : decode cX8_putsIn 107 = .ok (.iadd, 1) := by decide +kernel
theorem dX8_putsIn_108 : decode cX8_putsIn 108 = .ok (.iconst 0, 1) := by decide +kernel
theorem dX8_putsIn_109 : decode cX8_putsIn 109 = .ok (.iadd, 1) := by decide +kernel
theorem dX8_putsIn_110 : decode cX8_putsIn 110 = .ok (.iload_n 1, 1) := by decide +kernel
theorem dX8_putsIn_111 : decode cX8_putsIn 111 = .ok (.iastore, 1) := by decide +kernel
theorem dX8_putsIn_112 : decode cX8_putsIn 112 = .ok (.aload_n 0, 1) := by decide +kernel
theorem dX8_putsIn_113 : decode cX8_putsIn 113 = .ok (.getfield 7, 3) := by decide +kernel
theorem dX8_putsIn_116 : decode cX8_putsIn 116 = .ok (.bipush 41, 2) := by decide +kernel
theorem dX8_putsIn_118 : decode cX8_putsIn 118 = .ok (.iconst 4, 1) := by decide +kernel
theorem dX8_putsIn_119 : decode cX8_putsIn 119 = .ok (.iload 5, 2) := by decide +kernel
theorem dX8_putsIn_121 : decode cX8_putsIn 121 = .ok (.imul, 1) := by decide +kernel
theorem dX8_putsIn_122 : decode cX8_putsIn 122 = .ok (.iadd, 1) := by decide +kernel
theorem dX8_putsIn_123 : decode cX8_putsIn 123 = .ok (.iconst 1, 1) := by decide +kernel
theorem dX8_putsIn_124 : decode cX8_putsIn 124 = .ok (.iadd, 1) := by decide +kernel
theorem dX8_putsIn_125 : decode cX8_putsIn 125 = .ok (.iload_n 2, 1) := by decide +kernel
theorem dX8_putsIn_126 : decode cX8_putsIn 126 = .ok (.iastore, 1) := by decide +kernel
theorem dX8_putsIn_127 : decode cX8_putsIn 127 = .ok (.aload_n 0, 1) := by decide +kernel
theorem dX8_putsIn_128 : decode cX8_putsIn 128 = .ok (.getfield 7, 3) := by decide +kernel
theorem dX8_putsIn_131 : decode cX8_putsIn 131 = .ok (.bipush 41, 2) := by decide +kernel
theorem dX8_putsIn_133 : decode cX8_putsIn 133 = .ok (.iconst 4, 1) := by decide +kernel
theorem dX8_putsIn_134 : decode cX8_putsIn 134 = .ok (.iload 5, 2) := by decide +kernel
theorem dX8_putsIn_136 : decode cX8_putsIn 136 = .ok (.imul, 1) := by decide +kernel
theorem dX8_putsIn_137 : decode cX8_putsIn 137 = .ok (.iadd, 1) := by decide +kernel
theorem dX8_putsIn_138 : decode cX8_putsIn 138 = .ok (.iconst 2, 1) := by decide +kernel
theorem dX8_putsIn_139 : decode cX8_putsIn 139 = .ok (.iadd, 1) := by decide +kernel
theorem dX8_putsIn_140 : decode cX8_putsIn 140 = .ok (.iload_n 3, 1) := by decide +kernel
theorem dX8_putsIn_141 : decode cX8_putsIn 141 = .ok (.iastore, 1) := by decide +kernel
theorem dX8_putsIn_142 : decode cX8_putsIn 142 = .ok (.aload_n 0, 1) := by decide +kernel
theorem dX8_putsIn_143 : decode cX8_putsIn 143 = .ok (.getfield 7, 3) := by decide +kernel
theorem dX8_putsIn_146 : decode cX8_putsIn 146 = .ok (.bipush 41, 2) := by decide +kernel
theorem dX8_putsIn_148 : decode cX8_putsIn 148 = .ok (.iconst 4, 1) := by decide +kernel
theorem dX8_putsIn_149 : decode cX8_putsIn 149 = .ok (.iload 5, 2) := by decide +kernel
theorem dX8_putsIn_151 : decode cX8_putsIn 151 = .ok (.imul, 1) := by decide +kernel
theorem dX8_putsIn_152 : decode cX8_putsIn 152 = .ok (.iadd, 1) := by decide +kernel
theorem dX8_putsIn_153 : decode cX8_putsIn 153 = .ok (.iconst 3, 1) := by decide +kernel
theorem dX8_putsIn_154 : decode cX8_putsIn 154 = .ok (.iadd, 1) := by decide +kernel
theorem dX8_putsIn_155 : decode cX8_putsIn 155 = .ok (.iload 4, 2) := by decide +kernel
theorem dX8_putsIn_157 : decode cX8_putsIn 157 = .ok (.iastore, 1) := by decide +kernel
theorem dX8_putsIn_158 : decode cX8_putsIn 158 = .ok (.return_, 1) := by decide +kernel
set_option maxRecDepth 20000 in
theorem ggX8_putsIn_X8_rankAt : GoodIn wsX8_putsIn wsX8_rankAt := goodIn_r _ [6, 7, 8, 9, 5, 10, 1, 11, 12, 13, 14, 15, 16, 17, 18, 19, 20, 21, 22, 23, 24, 25, 26, 27, 28, 29, 30, 31, 32, 33, 34, 35, 36, 37, 38] (by decide +kernel) (by decide +kernel)
set_option maxRecDepth 20000 in
theorem gX8_putsIn_X8_rankAt : GoodIn wsX8_putsIn (wsV RX8 85 RX8 yX8_rankAt wsX8_rankAt) := goodIn_app (goodIn_of _ (by decide +kernel)) ggX8_putsIn_X8_rankAt
set_option maxRecDepth 20000 in
theorem ggX8_putsIn_X8_rankOf : GoodIn wsX8_putsIn wsX8_rankOf := goodIn_r _ [13] (by decide +kernel) (by decide +kernel)
set_option maxRecDepth 20000 in
theorem gX8_putsIn_X8_rankOf : GoodIn wsX8_putsIn (va_wsS RX8 81 yX8_rankOf wsX8_rankOf) := goodIn_app (goodIn_of _ (by decide +kernel)) ggX8_putsIn_X8_rankOf
theorem iX8_putsIn_8 : ∀ w ∈ u_ws RX8 TX8 25, w ∈ wsX8_putsIn := fun w h => List.mem_cons_of_mem _ (List.mem_append_right _ (h))
set_option maxHeartbeats 4000000 in
set_option maxRecDepth 100000 in
theorem w_X8_putsIn_L52 {p : Program} {l : Launch} {e : Env} {s : State} {m : MethodId} {args : Array Value} {below : List Frame} {meth : Method} {c : Code} {E : EE} {g : GG} {ad : Nat → Nat} (hg : gwf g) (X : CallFix p m c cX8_putsIn 7 s args wsX8_putsIn RX8) (K : Kn E s) (hr : meth.sig.returnType = none) (hlk : meth.locks = false) {Q : Mm → Prop} : ∀ (n : Nat) (o0 : Nat) (x1 : Int) (x2 : Int) (x3 : Int) (x4 : Int) (x5 : Int) (x6 : Int) (M : Mm) (H : Heap) (locs : List Loc) (ls : Array Slot), gk g o0 = 8 → Rw E g ad M s.heap H locs → lv_has ls 7 [(0, .ref (ad o0)), (1, cI x1), (2, cI x2), (3, cI x3), (4, cI x4), (5, cI x5), (6, cI x6)] → p_X8_putsIn_L52 g n o0 x1 x2 x3 x4 x5 x6 M Q → W p l e rmX8_putsIn s m args below meth c H locs 0 0 (MQ below (QV E g ad Q) args s 0 0 (Rg g ad)) (F0 m 52 ls []) := by
  intro n
  induction n with
  | zero =>
    intro o0 x1 x2 x3 x4 x5 x6 M H locs ls k_o0 w hl h
    exact absurd h (by unfold p_X8_putsIn_L52; exact id)
  | succ n ih =>
    intro o0 x1 x2 x3 x4 x5 x6 M H locs ls k_o0 w hl h
    unfold p_X8_putsIn_L52 at h
    refine lv_iload X.1 X.2.1 dX8_putsIn_52 (lv_at hl 6 rfl) ?_
    refine r_bipush X dX8_putsIn_54 (by decide +kernel) ?_
    refine r_iconst X dX8_putsIn_56 ?_
    refine lv_iload X.1 X.2.1 dX8_putsIn_57 (lv_at hl 5 rfl) ?_
    refine r_imul X dX8_putsIn_59 ?_
    refine r_iadd X dX8_putsIn_60 ?_
    obtain ⟨i0, i1, h1, h2⟩ := h
    refine r_icmp_lt (tgt := 86) X i0 i1 dX8_putsIn_61 (by decide) (fun cc => ?_) (fun cc => ?_)
    · have h := h1 cc
      refine lv_aload_n X.1 X.2.1 dX8_putsIn_86 rfl (lv_at hl 0 rfl) ?_
      refine r_getr (N := 25) (T := TX8) X K w iX8_putsIn_8 k_o0 rfl (by decide) 0 (by decide) rfl rfl (List.mem_of_getElem? (i := 1) rfl) dX8_putsIn_87 ?_
      have k3 : gk g (o0 + 1) = 9 := gch hg k_o0 (by decide) 0 (by decide) rfl rfl
      refine r_bipush X dX8_putsIn_90 (by decide +kernel) ?_
      refine lv_dup2_11 X.1 X.2.1 dX8_putsIn_92 rfl rfl ?_
      obtain ⟨b1, h⟩ := h
      refine r_iald X K w hg k3 (by decide) b1 dX8_putsIn_93 ?_
      refine r_iconst X dX8_putsIn_94 ?_
      refine r_iadd X dX8_putsIn_95 ?_
      obtain ⟨b1, h⟩ := h
      refine r_iast X K w hg k3 (by decide) b1 dX8_putsIn_96 (fun M4 H locs e w => ?_)
      replace h := h M4 e
      refine lv_aload_n X.1 X.2.1 dX8_putsIn_97 rfl (lv_at hl 0 rfl) ?_
      refine r_getr (N := 25) (T := TX8) X K w iX8_putsIn_8 k_o0 rfl (by decide) 0 (by decide) rfl rfl (List.mem_of_getElem? (i := 1) rfl) dX8_putsIn_98 ?_
      have k5 : gk g (o0 + 1) = 9 := gch hg k_o0 (by decide) 0 (by decide) rfl rfl
      refine r_bipush X dX8_putsIn_101 (by decide +kernel) ?_
      refine r_iconst X dX8_putsIn_103 ?_
      refine lv_iload X.1 X.2.1 dX8_putsIn_104 (lv_at hl 5 rfl) ?_
      refine r_imul X dX8_putsIn_106 ?_
      refine r_iadd X dX8_putsIn_107 ?_
      refine r_iconst X dX8_putsIn_108 ?_
      refine r_iadd X dX8_putsIn_109 ?_
      refine lv_iload_n X.1 X.2.1 dX8_putsIn_110 rfl (lv_at hl 1 rfl) ?_
      obtain ⟨b0, b1, h⟩ := h
      refine r_iast X K w hg k5 b0 b1 dX8_putsIn_111 (fun M6 H locs e w => ?_)
      replace h := h M6 e
      refine lv_aload_n X.1 X.2.1 dX8_putsIn_112 rfl (lv_at hl 0 rfl) ?_
      refine r_getr (N := 25) (T := TX8) X K w iX8_putsIn_8 k_o0 rfl (by decide) 0 (by decide) rfl rfl (List.mem_of_getElem? (i := 1) rfl) dX8_putsIn_113 ?_
      have k7 : gk g (o0 + 1) = 9 := gch hg k_o0 (by decide) 0 (by decide) rfl rfl
      refine r_bipush X dX8_putsIn_116 (by decide +kernel) ?_
      refine r_iconst X dX8_putsIn_118 ?_
      refine lv_iload X.1 X.2.1 dX8_putsIn_119 (lv_at hl 5 rfl) ?_
      refine r_imul X dX8_putsIn_121 ?_
      refine r_iadd X dX8_putsIn_122 ?_
      refine r_iconst X dX8_putsIn_123 ?_
      refine r_iadd X dX8_putsIn_124 ?_
      refine lv_iload_n X.1 X.2.1 dX8_putsIn_125 rfl (lv_at hl 2 rfl) ?_
      obtain ⟨b0, b1, h⟩ := h
      refine r_iast X K w hg k7 b0 b1 dX8_putsIn_126 (fun M8 H locs e w => ?_)
      replace h := h M8 e
      refine lv_aload_n X.1 X.2.1 dX8_putsIn_127 rfl (lv_at hl 0 rfl) ?_
      refine r_getr (N := 25) (T := TX8) X K w iX8_putsIn_8 k_o0 rfl (by decide) 0 (by decide) rfl rfl (List.mem_of_getElem? (i := 1) rfl) dX8_putsIn_128 ?_
      have k9 : gk g (o0 + 1) = 9 := gch hg k_o0 (by decide) 0 (by decide) rfl rfl
      refine r_bipush X dX8_putsIn_131 (by decide +kernel) ?_
      refine r_iconst X dX8_putsIn_133 ?_
      refine lv_iload X.1 X.2.1 dX8_putsIn_134 (lv_at hl 5 rfl) ?_
      refine r_imul X dX8_putsIn_136 ?_
      refine r_iadd X dX8_putsIn_137 ?_
      refine r_iconst X dX8_putsIn_138 ?_
      refine r_iadd X dX8_putsIn_139 ?_
      refine lv_iload_n X.1 X.2.1 dX8_putsIn_140 rfl (lv_at hl 3 rfl) ?_
      obtain ⟨b0, b1, h⟩ := h
      refine r_iast X K w hg k9 b0 b1 dX8_putsIn_141 (fun M10 H locs e w => ?_)
      replace h := h M10 e
      refine lv_aload_n X.1 X.2.1 dX8_putsIn_142 rfl (lv_at hl 0 rfl) ?_
      refine r_getr (N := 25) (T := TX8) X K w iX8_putsIn_8 k_o0 rfl (by decide) 0 (by decide) rfl rfl (List.mem_of_getElem? (i := 1) rfl) dX8_putsIn_143 ?_
      have k11 : gk g (o0 + 1) = 9 := gch hg k_o0 (by decide) 0 (by decide) rfl rfl
      refine r_bipush X dX8_putsIn_146 (by decide +kernel) ?_
      refine r_iconst X dX8_putsIn_148 ?_
      refine lv_iload X.1 X.2.1 dX8_putsIn_149 (lv_at hl 5 rfl) ?_
      refine r_imul X dX8_putsIn_151 ?_
      refine r_iadd X dX8_putsIn_152 ?_
      refine r_iconst X dX8_putsIn_153 ?_
      refine r_iadd X dX8_putsIn_154 ?_
      refine lv_iload X.1 X.2.1 dX8_putsIn_155 (lv_at hl 4 rfl) ?_
      obtain ⟨b0, b1, h⟩ := h
      refine r_iast X K w hg k11 b0 b1 dX8_putsIn_157 (fun M12 H locs e w => ?_)
      replace h := h M12 e
      exact r_return X hr hlk K w h dX8_putsIn_158
    · have h := h2 cc
      refine lv_aload_n X.1 X.2.1 dX8_putsIn_64 rfl (lv_at hl 0 rfl) ?_
      refine r_getr (N := 25) (T := TX8) X K w iX8_putsIn_8 k_o0 rfl (by decide) 0 (by decide) rfl rfl (List.mem_of_getElem? (i := 1) rfl) dX8_putsIn_65 ?_
      have k13 : gk g (o0 + 1) = 9 := gch hg k_o0 (by decide) 0 (by decide) rfl rfl
      refine lv_iload X.1 X.2.1 dX8_putsIn_68 (lv_at hl 6 rfl) ?_
      refine r_iconst X dX8_putsIn_70 ?_
      refine r_iadd X dX8_putsIn_71 ?_
      refine lv_aload_n X.1 X.2.1 dX8_putsIn_72 rfl (lv_at hl 0 rfl) ?_
      refine r_getr (N := 25) (T := TX8) X K w iX8_putsIn_8 k_o0 rfl (by decide) 0 (by decide) rfl rfl (List.mem_of_getElem? (i := 1) rfl) dX8_putsIn_73 ?_
      have k14 : gk g (o0 + 1) = 9 := gch hg k_o0 (by decide) 0 (by decide) rfl rfl
      refine lv_iload X.1 X.2.1 dX8_putsIn_76 (lv_at hl 6 rfl) ?_
      obtain ⟨b0, b1, h⟩ := h
      refine r_iald X K w hg k14 b0 b1 dX8_putsIn_78 ?_
      obtain ⟨b0, b1, h⟩ := h
      refine r_iast X K w hg k13 b0 b1 dX8_putsIn_79 (fun M15 H locs e w => ?_)
      replace h := h M15 e
      refine r_iinc (lv' := [(6, cI (x6 + (-1))), (0, .ref (ad o0)), (1, cI x1), (2, cI x2), (3, cI x3), (4, cI x4), (5, cI x5)]) X hl (k := 6) rfl (by decide) dX8_putsIn_80 rfl (fun ls hl => ?_)
      refine lv_goto (tgt := 52) X.1 X.2.1 dX8_putsIn_83 (by decide) ?_
      exact ih o0 x1 x2 x3 x4 x5 (x6 + (-1)) M15 _ _ _ k_o0 w (lv_sub hl [1, 2, 3, 4, 5, 6, 0] rfl) h
set_option maxHeartbeats 4000000 in
set_option maxRecDepth 100000 in
theorem w_X8_putsIn_J36 {p : Program} {l : Launch} {e : Env} {s : State} {m : MethodId} {args : Array Value} {below : List Frame} {meth : Method} {c : Code} {E : EE} {g : GG} {ad : Nat → Nat} (hg : gwf g) (X : CallFix p m c cX8_putsIn 7 s args wsX8_putsIn RX8) (K : Kn E s) (hr : meth.sig.returnType = none) (hlk : meth.locks = false) {Q : Mm → Prop} : ∀ (o0 : Nat) (x1 : Int) (x2 : Int) (x3 : Int) (x4 : Int) (x5 : Int) (M : Mm) (H : Heap) (locs : List Loc) (ls : Array Slot), gk g o0 = 8 → Rw E g ad M s.heap H locs → lv_has ls 7 [(0, .ref (ad o0)), (1, cI x1), (2, cI x2), (3, cI x3), (4, cI x4), (5, cI x5)] → p_X8_putsIn_J36 g o0 x1 x2 x3 x4 x5 M Q → W p l e rmX8_putsIn s m args below meth c H locs 0 0 (MQ below (QV E g ad Q) args s 0 0 (Rg g ad)) (F0 m 36 ls []) := by
  intro o0 x1 x2 x3 x4 x5 M H locs ls k_o0 w hl h
  unfold p_X8_putsIn_J36 at h
  refine r_bipush X dX8_putsIn_36 (by decide +kernel) ?_
  refine r_iconst X dX8_putsIn_38 ?_
  refine lv_aload_n X.1 X.2.1 dX8_putsIn_39 rfl (lv_at hl 0 rfl) ?_
  refine r_getr (N := 25) (T := TX8) X K w iX8_putsIn_8 k_o0 rfl (by decide) 0 (by decide) rfl rfl (List.mem_of_getElem? (i := 1) rfl) dX8_putsIn_40 ?_
  have k2 : gk g (o0 + 1) = 9 := gch hg k_o0 (by decide) 0 (by decide) rfl rfl
  refine r_bipush X dX8_putsIn_43 (by decide +kernel) ?_
  obtain ⟨b1, h⟩ := h
  refine r_iald X K w hg k2 (by decide) b1 dX8_putsIn_45 ?_
  refine r_imul X dX8_putsIn_46 ?_
  refine r_iadd X dX8_putsIn_47 ?_
  refine r_iconst X dX8_putsIn_48 ?_
  refine r_isub X dX8_putsIn_49 ?_
  refine lv_istore (lv' := [(6, cI ((41 + (4 * (M (o0 + 1) 36))) - 1)), (0, .ref (ad o0)), (1, cI x1), (2, cI x2), (3, cI x3), (4, cI x4), (5, cI x5)]) X.1 X.2.1 dX8_putsIn_50 hl (by decide) rfl (fun ls hl => ?_)
  obtain ⟨n16, h⟩ := h
  exact w_X8_putsIn_L52 hg X K hr hlk n16 o0 x1 x2 x3 x4 x5 ((41 + (4 * (M (o0 + 1) 36))) - 1) M _ _ _ k_o0 w (lv_sub hl [1, 2, 3, 4, 5, 6, 0] rfl) h
set_option maxHeartbeats 4000000 in
set_option maxRecDepth 100000 in
theorem w_X8_putsIn_L3 {p : Program} {l : Launch} {e : Env} {s : State} {m : MethodId} {args : Array Value} {below : List Frame} {meth : Method} {c : Code} {E : EE} {g : GG} {ad : Nat → Nat} (hg : gwf g) (X : CallFix p m c cX8_putsIn 7 s args wsX8_putsIn RX8) (K : Kn E s) (hr : meth.sig.returnType = none) (hlk : meth.locks = false) {Q : Mm → Prop} : ∀ (n : Nat) (o0 : Nat) (x1 : Int) (x2 : Int) (x3 : Int) (x4 : Int) (x5 : Int) (M : Mm) (H : Heap) (locs : List Loc) (ls : Array Slot), gk g o0 = 8 → Rw E g ad M s.heap H locs → lv_has ls 7 [(0, .ref (ad o0)), (1, cI x1), (2, cI x2), (3, cI x3), (4, cI x4), (5, cI x5)] → p_X8_putsIn_L3 g n o0 x1 x2 x3 x4 x5 M Q → W p l e rmX8_putsIn s m args below meth c H locs 0 0 (MQ below (QV E g ad Q) args s 0 0 (Rg g ad)) (F0 m 3 ls []) := by
  intro n
  induction n with
  | zero =>
    intro o0 x1 x2 x3 x4 x5 M H locs ls k_o0 w hl h
    exact absurd h (by unfold p_X8_putsIn_L3; exact id)
  | succ n ih =>
    intro o0 x1 x2 x3 x4 x5 M H locs ls k_o0 w hl h
    unfold p_X8_putsIn_L3 at h
    refine lv_iload X.1 X.2.1 dX8_putsIn_3 (lv_at hl 5 rfl) ?_
    refine lv_aload_n X.1 X.2.1 dX8_putsIn_5 rfl (lv_at hl 0 rfl) ?_
    refine r_getr (N := 25) (T := TX8) X K w iX8_putsIn_8 k_o0 rfl (by decide) 0 (by decide) rfl rfl (List.mem_of_getElem? (i := 1) rfl) dX8_putsIn_6 ?_
    have k1 : gk g (o0 + 1) = 9 := gch hg k_o0 (by decide) 0 (by decide) rfl rfl
    refine r_bipush X dX8_putsIn_9 (by decide +kernel) ?_
    obtain ⟨b1, h⟩ := h
    refine r_iald X K w hg k1 (by decide) b1 dX8_putsIn_11 ?_
    obtain ⟨i0, i1, h1, h2⟩ := h
    refine r_icmp_ge (tgt := 36) X i0 i1 dX8_putsIn_12 (by decide) (fun cc => ?_) (fun cc => ?_)
    · have h := h1 cc
      exact w_X8_putsIn_J36 hg X K hr hlk o0 x1 x2 x3 x4 x5 M _ _ _ k_o0 w (lv_sub hl [0, 1, 2, 3, 4, 5] rfl) h
    · have h := h2 cc
      refine lv_aload_n X.1 X.2.1 dX8_putsIn_15 rfl (lv_at hl 0 rfl) ?_
      refine lv_iload X.1 X.2.1 dX8_putsIn_16 (lv_at hl 5 rfl) ?_
      refine q_i (x_V (As := [cI x5]) (rest := []) X K w (c_X8_rankAt hg k_o0 h) (cwV 1 X.2.2.2.2 gX8_putsIn_X8_rankAt rfl rfl rfl (by decide +kernel) ⟨Nat.le_of_ble_eq_true rfl, Nat.le_of_ble_eq_true rfl⟩) k_o0 (by decide) rfl rfl hl rfl (Nat.le_of_ble_eq_true rfl) dX8_putsIn_18 ⟨Nat.le_of_ble_eq_true rfl, Nat.le_of_ble_eq_true rfl⟩) w (fun r18 M17 H locs h w => ?_)
      refine lv_iload_n X.1 X.2.1 dX8_putsIn_21 rfl (lv_at hl 2 rfl) ?_
      refine lv_iload_n X.1 X.2.1 dX8_putsIn_22 rfl (lv_at hl 1 rfl) ?_
      refine lv_iload_n X.1 X.2.1 dX8_putsIn_23 rfl (lv_at hl 3 rfl) ?_
      refine q_i (x_S (As := [cI x2, cI x1, cI x3]) (rest := [cI r18]) X K w (c_X8_rankOf hg h) (va_cwS 3 X.2.2.2.2 gX8_putsIn_X8_rankOf rfl rfl rfl (by decide +kernel) ⟨Nat.le_of_ble_eq_true rfl, Nat.le_of_ble_eq_true rfl⟩) rfl hl rfl (Nat.le_of_ble_eq_true rfl) dX8_putsIn_24 ⟨Nat.le_of_ble_eq_true rfl, Nat.le_of_ble_eq_true rfl⟩) w (fun r20 M19 H locs h w => ?_)
      obtain ⟨i0, i1, h1, h2⟩ := h
      refine r_icmp_ge (tgt := 36) X i0 i1 dX8_putsIn_27 (by decide) (fun cc => ?_) (fun cc => ?_)
      · have h := h1 cc
        exact w_X8_putsIn_J36 hg X K hr hlk o0 x1 x2 x3 x4 x5 M19 _ _ _ k_o0 w (lv_sub hl [0, 1, 2, 3, 4, 5] rfl) h
      · have h := h2 cc
        refine r_iinc (lv' := [(5, cI (x5 + 1)), (0, .ref (ad o0)), (1, cI x1), (2, cI x2), (3, cI x3), (4, cI x4)]) X hl (k := 5) rfl (by decide) dX8_putsIn_30 rfl (fun ls hl => ?_)
        refine lv_goto (tgt := 3) X.1 X.2.1 dX8_putsIn_33 (by decide) ?_
        exact ih o0 x1 x2 x3 x4 (x5 + 1) M19 _ _ _ k_o0 w (lv_sub hl [1, 2, 3, 4, 5, 0] rfl) h
set_option maxHeartbeats 4000000 in
set_option maxRecDepth 100000 in
theorem c_X8_putsIn {E : EE} {l : Launch} {g : GG} {ad : Nat → Nat} (hg : gwf g) {o0 : Nat} {x1 : Int} {x2 : Int} {x3 : Int} {x4 : Int} {M : Mm} {Q : Mm → Prop} (k_o0 : gk g o0 = 8) (h : p_X8_putsIn g o0 x1 x2 x3 x4 M Q) : Ct E l yX8_putsIn wsX8_putsIn rmX8_putsIn g ad [.ref (ad o0), cI x1, cI x2, cI x3, cI x4] M (QV E g ad Q) := by
  refine ent (cc := cX8_putsIn) (maxL := 7) (ret := none) (own := RX8) (by decide +kernel) rfl rfl (Nat.le_of_ble_eq_true rfl) ?_
  intro p e s m below meth c ls X hr hlk K w hl
  have hl : lv_has ls 7 [(0, .ref (ad o0)), (1, cI x1), (2, cI x2), (3, cI x3), (4, cI x4)] := hl
  unfold p_X8_putsIn at h
  refine r_iconst X dX8_putsIn_0 ?_
  refine lv_istore (lv' := [(5, cI 0), (0, .ref (ad o0)), (1, cI x1), (2, cI x2), (3, cI x3), (4, cI x4)]) X.1 X.2.1 dX8_putsIn_1 hl (by decide) rfl (fun ls hl => ?_)
  obtain ⟨n21, h⟩ := h
  exact w_X8_putsIn_L3 hg X K hr hlk n21 o0 x1 x2 x3 x4 0 M _ _ _ k_o0 w (lv_sub hl [1, 2, 3, 4, 5, 0] rfl) h
theorem dX8_cuesOf_0 : decode cX8_cuesOf 0 = .ok (.iconst 0, 1) := by decide +kernel
theorem dX8_cuesOf_1 : decode cX8_cuesOf 1 = .ok (.istore_n 2, 1) := by decide +kernel
theorem dX8_cuesOf_2 : decode cX8_cuesOf 2 = .ok (.iconst 0, 1) := by decide +kernel
theorem dX8_cuesOf_3 : decode cX8_cuesOf 3 = .ok (.istore_n 3, 1) := by decide +kernel
theorem dX8_cuesOf_4 : decode cX8_cuesOf 4 = .ok (.iload_n 3, 1) := by decide +kernel
theorem dX8_cuesOf_5 : decode cX8_cuesOf 5 = .ok (.aload_n 0, 1) := by decide +kernel
theorem dX8_cuesOf_6 : decode cX8_cuesOf 6 = .ok (.getfield 7, 3) := by decide +kernel
theorem dX8_cuesOf_9 : decode cX8_cuesOf 9 = .ok (.bipush 36, 2) := by decide +kernel
theorem dX8_cuesOf_11 : decode cX8_cuesOf 11 = .ok (.iaload, 1) := by decide +kernel
theorem dX8_cuesOf_12 : decode cX8_cuesOf 12 = .ok (.if_icmp .ge 27, 3) := by decide +kernel
theorem dX8_cuesOf_15 : decode cX8_cuesOf 15 = .ok (.iload_n 2, 1) := by decide +kernel
theorem dX8_cuesOf_16 : decode cX8_cuesOf 16 = .ok (.aload_n 0, 1) := by decide +kernel
theorem dX8_cuesOf_17 : decode cX8_cuesOf 17 = .ok (.iload_n 3, 1) := by decide +kernel
theorem dX8_cuesOf_18 : decode cX8_cuesOf 18 = .ok (.iconst 0, 1) := by decide +kernel
theorem dX8_cuesOf_19 : decode cX8_cuesOf 19 = .ok (.invokevirtual 77, 3) := by decide +kernel
theorem dX8_cuesOf_22 : decode cX8_cuesOf 22 = .ok (.iload_n 1, 1) := by decide +kernel
theorem dX8_cuesOf_23 : decode cX8_cuesOf 23 = .ok (.if_icmp .ne 7, 3) := by decide +kernel
theorem dX8_cuesOf_26 : decode cX8_cuesOf 26 = .ok (.iconst 1, 1) := by decide +kernel
theorem dX8_cuesOf_27 : decode cX8_cuesOf 27 = .ok (.goto 4, 3) := by decide +kernel
theorem dX8_cuesOf_30 : decode cX8_cuesOf 30 = .ok (.iconst 0, 1) := by decide +kernel
theorem dX8_cuesOf_31 : decode cX8_cuesOf 31 = .ok (.iadd, 1) := by decide +kernel
theorem dX8_cuesOf_32 : decode cX8_cuesOf 32 = .ok (.istore_n 2, 1) := by decide +kernel
theorem dX8_cuesOf_33 : decode cX8_cuesOf 33 = .ok (.iinc 3 1, 3) := by decide +kernel
theorem dX8_cuesOf_36 : decode cX8_cuesOf 36 = .ok (.goto (-32), 3) := by decide +kernel
theorem dX8_cuesOf_39 : decode cX8_cuesOf 39 = .ok (.iload_n 2, 1) := by decide +kernel
theorem dX8_cuesOf_40 : decode cX8_cuesOf 40 = .ok (.ireturn, 1) := by decide +kernel
set_option maxRecDepth 20000 in
theorem ggX8_cuesOf_X8_of : GoodIn wsX8_cuesOf wsX8_of := goodIn_r _ [6, 1, 7, 8, 9, 10, 11, 12, 13, 14, 15, 16, 17, 18, 19, 20, 21, 22, 23, 24, 25, 26, 27, 28, 29, 30, 31] (by decide +kernel) (by decide +kernel)
set_option maxRecDepth 20000 in
theorem gX8_cuesOf_X8_of : GoodIn wsX8_cuesOf (wsV RX8 77 RX8 yX8_of wsX8_of) := goodIn_app (goodIn_of _ (by decide +kernel)) ggX8_cuesOf_X8_of
theorem iX8_cuesOf_8 : ∀ w ∈ u_ws RX8 TX8 25, w ∈ wsX8_cuesOf := fun w h => List.mem_cons_of_mem _ (List.mem_append_right _ (h))
set_option maxHeartbeats 4000000 in
set_option maxRecDepth 100000 in
theorem w_X8_cuesOf_L4 {p : Program} {l : Launch} {e : Env} {s : State} {m : MethodId} {args : Array Value} {below : List Frame} {meth : Method} {c : Code} {E : EE} {g : GG} {ad : Nat → Nat} (hg : gwf g) (X : CallFix p m c cX8_cuesOf 4 s args wsX8_cuesOf RX8) (K : Kn E s) (hr : meth.sig.returnType = (some .int)) (hlk : meth.locks = false) {Q : Int → Mm → Prop} : ∀ (n : Nat) (o0 : Nat) (x1 : Int) (x2 : Int) (x3 : Int) (M : Mm) (H : Heap) (locs : List Loc) (ls : Array Slot), gk g o0 = 8 → Rw E g ad M s.heap H locs → lv_has ls 4 [(0, .ref (ad o0)), (1, cI x1), (2, cI x2), (3, cI x3)] → p_X8_cuesOf_L4 g n o0 x1 x2 x3 M Q → W p l e rmX8_cuesOf s m args below meth c H locs 0 0 (MQ below (QI E g ad Q) args s 0 0 (Rg g ad)) (F0 m 4 ls []) := by
  intro n
  induction n with
  | zero =>
    intro o0 x1 x2 x3 M H locs ls k_o0 w hl h
    exact absurd h (by unfold p_X8_cuesOf_L4; exact id)
  | succ n ih =>
    intro o0 x1 x2 x3 M H locs ls k_o0 w hl h
    unfold p_X8_cuesOf_L4 at h
    refine lv_iload_n X.1 X.2.1 dX8_cuesOf_4 rfl (lv_at hl 3 rfl) ?_
    refine lv_aload_n X.1 X.2.1 dX8_cuesOf_5 rfl (lv_at hl 0 rfl) ?_
    refine r_getr (N := 25) (T := TX8) X K w iX8_cuesOf_8 k_o0 rfl (by decide) 0 (by decide) rfl rfl (List.mem_of_getElem? (i := 1) rfl) dX8_cuesOf_6 ?_
    have k1 : gk g (o0 + 1) = 9 := gch hg k_o0 (by decide) 0 (by decide) rfl rfl
    refine r_bipush X dX8_cuesOf_9 (by decide +kernel) ?_
    obtain ⟨b1, h⟩ := h
    refine r_iald X K w hg k1 (by decide) b1 dX8_cuesOf_11 ?_
    obtain ⟨i0, i1, h1, h2⟩ := h
    refine r_icmp_ge (tgt := 39) X i0 i1 dX8_cuesOf_12 (by decide) (fun cc => ?_) (fun cc => ?_)
    · have h := h1 cc
      refine lv_iload_n X.1 X.2.1 dX8_cuesOf_39 rfl (lv_at hl 2 rfl) ?_
      exact r_ireturn X hr hlk K w h dX8_cuesOf_40
    · have h := h2 cc
      refine lv_iload_n X.1 X.2.1 dX8_cuesOf_15 rfl (lv_at hl 2 rfl) ?_
      refine lv_aload_n X.1 X.2.1 dX8_cuesOf_16 rfl (lv_at hl 0 rfl) ?_
      refine lv_iload_n X.1 X.2.1 dX8_cuesOf_17 rfl (lv_at hl 3 rfl) ?_
      refine r_iconst X dX8_cuesOf_18 ?_
      refine q_i (x_V (As := [cI x3, cI 0]) (rest := [cI x2]) X K w (c_X8_of hg k_o0 h) (cwV 2 X.2.2.2.2 gX8_cuesOf_X8_of rfl rfl rfl (by decide +kernel) ⟨Nat.le_of_ble_eq_true rfl, Nat.le_of_ble_eq_true rfl⟩) k_o0 (by decide) rfl rfl hl rfl (Nat.le_of_ble_eq_true rfl) dX8_cuesOf_19 ⟨Nat.le_of_ble_eq_true rfl, Nat.le_of_ble_eq_true rfl⟩) w (fun r3 M2 H locs h w => ?_)
      refine lv_iload_n X.1 X.2.1 dX8_cuesOf_22 rfl (lv_at hl 1 rfl) ?_
      obtain ⟨i0, i1, h1, h2⟩ := h
      refine r_icmp_ne (tgt := 30) X i0 i1 dX8_cuesOf_23 (by decide) (fun cc => ?_) (fun cc => ?_)
      · have h := h1 cc
        refine r_iconst X dX8_cuesOf_30 ?_
        refine r_iadd X dX8_cuesOf_31 ?_
        refine lv_istore_n (lv' := [(2, cI (x2 + 0)), (0, .ref (ad o0)), (1, cI x1), (3, cI x3)]) X.1 X.2.1 dX8_cuesOf_32 rfl hl (by decide) rfl (fun ls hl => ?_)
        refine r_iinc (lv' := [(3, cI (x3 + 1)), (2, cI (x2 + 0)), (0, .ref (ad o0)), (1, cI x1)]) X hl (k := 3) rfl (by decide) dX8_cuesOf_33 rfl (fun ls hl => ?_)
        refine lv_goto (tgt := 4) X.1 X.2.1 dX8_cuesOf_36 (by decide) ?_
        exact ih o0 x1 (x2 + 0) (x3 + 1) M2 _ _ _ k_o0 w (lv_sub hl [2, 3, 1, 0] rfl) h
      · have h := h2 cc
        refine r_iconst X dX8_cuesOf_26 ?_
        refine lv_goto (tgt := 31) X.1 X.2.1 dX8_cuesOf_27 (by decide) ?_
        refine r_iadd X dX8_cuesOf_31 ?_
        refine lv_istore_n (lv' := [(2, cI (x2 + 1)), (0, .ref (ad o0)), (1, cI x1), (3, cI x3)]) X.1 X.2.1 dX8_cuesOf_32 rfl hl (by decide) rfl (fun ls hl => ?_)
        refine r_iinc (lv' := [(3, cI (x3 + 1)), (2, cI (x2 + 1)), (0, .ref (ad o0)), (1, cI x1)]) X hl (k := 3) rfl (by decide) dX8_cuesOf_33 rfl (fun ls hl => ?_)
        refine lv_goto (tgt := 4) X.1 X.2.1 dX8_cuesOf_36 (by decide) ?_
        exact ih o0 x1 (x2 + 1) (x3 + 1) M2 _ _ _ k_o0 w (lv_sub hl [2, 3, 1, 0] rfl) h
set_option maxHeartbeats 4000000 in
set_option maxRecDepth 100000 in
theorem c_X8_cuesOf {E : EE} {l : Launch} {g : GG} {ad : Nat → Nat} (hg : gwf g) {o0 : Nat} {x1 : Int} {M : Mm} {Q : Int → Mm → Prop} (k_o0 : gk g o0 = 8) (h : p_X8_cuesOf g o0 x1 M Q) : Ct E l yX8_cuesOf wsX8_cuesOf rmX8_cuesOf g ad [.ref (ad o0), cI x1] M (QI E g ad Q) := by
  refine ent (cc := cX8_cuesOf) (maxL := 4) (ret := (some .int)) (own := RX8) (by decide +kernel) rfl rfl (Nat.le_of_ble_eq_true rfl) ?_
  intro p e s m below meth c ls X hr hlk K w hl
  have hl : lv_has ls 4 [(0, .ref (ad o0)), (1, cI x1)] := hl
  unfold p_X8_cuesOf at h
  refine r_iconst X dX8_cuesOf_0 ?_
  refine lv_istore_n (lv' := [(2, cI 0), (0, .ref (ad o0)), (1, cI x1)]) X.1 X.2.1 dX8_cuesOf_1 rfl hl (by decide) rfl (fun ls hl => ?_)
  refine r_iconst X dX8_cuesOf_2 ?_
  refine lv_istore_n (lv' := [(3, cI 0), (2, cI 0), (0, .ref (ad o0)), (1, cI x1)]) X.1 X.2.1 dX8_cuesOf_3 rfl hl (by decide) rfl (fun ls hl => ?_)
  obtain ⟨n4, h⟩ := h
  exact w_X8_cuesOf_L4 hg X K hr hlk n4 o0 x1 0 0 M _ _ _ k_o0 w (lv_sub hl [2, 3, 1, 0] rfl) h
theorem dX8_apart_0 : decode cX8_apart 0 = .ok (.iload_n 0, 1) := by decide +kernel
theorem dX8_apart_1 : decode cX8_apart 1 = .ok (.iload_n 1, 1) := by decide +kernel
theorem dX8_apart_2 : decode cX8_apart 2 = .ok (.if_icmp .ge 9, 3) := by decide +kernel
theorem dX8_apart_5 : decode cX8_apart 5 = .ok (.iload_n 1, 1) := by decide +kernel
theorem dX8_apart_6 : decode cX8_apart 6 = .ok (.iload_n 0, 1) := by decide +kernel
theorem dX8_apart_7 : decode cX8_apart 7 = .ok (.isub, 1) := by decide +kernel
theorem dX8_apart_8 : decode cX8_apart 8 = .ok (.goto 6, 3) := by decide +kernel
theorem dX8_apart_11 : decode cX8_apart 11 = .ok (.iload_n 0, 1) := by decide +kernel
theorem dX8_apart_12 : decode cX8_apart 12 = .ok (.iload_n 1, 1) := by decide +kernel
theorem dX8_apart_13 : decode cX8_apart 13 = .ok (.isub, 1) := by decide +kernel
theorem dX8_apart_14 : decode cX8_apart 14 = .ok (.ireturn, 1) := by decide +kernel
set_option maxHeartbeats 4000000 in
set_option maxRecDepth 100000 in
theorem c_X8_apart {E : EE} {l : Launch} {g : GG} {ad : Nat → Nat} (hg : gwf g) {x0 : Int} {x1 : Int} {M : Mm} {Q : Int → Mm → Prop} (h : p_X8_apart g x0 x1 M Q) : Ct E l yX8_apart wsX8_apart rmX8_apart g ad [cI x0, cI x1] M (QI E g ad Q) := by
  refine ent (cc := cX8_apart) (maxL := 2) (ret := (some .int)) (own := RX8) (by decide +kernel) rfl rfl (Nat.le_of_ble_eq_true rfl) ?_
  intro p e s m below meth c ls X hr hlk K w hl
  have hl : lv_has ls 2 [(0, cI x0), (1, cI x1)] := hl
  unfold p_X8_apart at h
  refine lv_iload_n X.1 X.2.1 dX8_apart_0 rfl (lv_at hl 0 rfl) ?_
  refine lv_iload_n X.1 X.2.1 dX8_apart_1 rfl (lv_at hl 1 rfl) ?_
  obtain ⟨i0, i1, h1, h2⟩ := h
  refine r_icmp_ge (tgt := 11) X i0 i1 dX8_apart_2 (by decide) (fun cc => ?_) (fun cc => ?_)
  · have h := h1 cc
    refine lv_iload_n X.1 X.2.1 dX8_apart_11 rfl (lv_at hl 0 rfl) ?_
    refine lv_iload_n X.1 X.2.1 dX8_apart_12 rfl (lv_at hl 1 rfl) ?_
    refine r_isub X dX8_apart_13 ?_
    exact r_ireturn X hr hlk K w h dX8_apart_14
  · have h := h2 cc
    refine lv_iload_n X.1 X.2.1 dX8_apart_5 rfl (lv_at hl 1 rfl) ?_
    refine lv_iload_n X.1 X.2.1 dX8_apart_6 rfl (lv_at hl 0 rfl) ?_
    refine r_isub X dX8_apart_7 ?_
    refine lv_goto (tgt := 14) X.1 X.2.1 dX8_apart_8 (by decide) ?_
    exact r_ireturn X hr hlk K w h dX8_apart_14
theorem dX8_handFor_0 : decode cX8_handFor 0 = .ok (.bipush (-5), 2) := by decide +kernel
theorem dX8_handFor_2 : decode cX8_handFor 2 = .ok (.istore_n 3, 1) := by decide +kernel
theorem dX8_handFor_3 : decode cX8_handFor 3 = .ok (.iconst 0, 1) := by decide +kernel
theorem dX8_handFor_4 : decode cX8_handFor 4 = .ok (.istore 4, 2) := by decide +kernel
theorem dX8_handFor_6 : decode cX8_handFor 6 = .ok (.iload 4, 2) := by decide +kernel
theorem dX8_handFor_8 : decode cX8_handFor 8 = .ok (.aload_n 0, 1) := by decide +kernel
theorem dX8_handFor_9 : decode cX8_handFor 9 = .ok (.getfield 7, 3) := by decide +kernel
theorem dX8_handFor_12 : decode cX8_handFor 12 = .ok (.bipush 30, 2) := by decide +kernel
theorem dX8_handFor_14 : decode cX8_handFor 14 = .ok (.iaload, 1) := by decide +kernel
theorem dX8_handFor_15 : decode cX8_handFor 15 = .ok (.if_icmp .ge 66, 3) := by decide +kernel
theorem dX8_handFor_18 : decode cX8_handFor 18 = .ok (.aload_n 0, 1) := by decide +kernel
theorem dX8_handFor_19 : decode cX8_handFor 19 = .ok (.getfield 7, 3) := by decide +kernel
theorem dX8_handFor_22 : decode cX8_handFor 22 = .ok (.bipush 31, 2) := by decide +kernel
theorem dX8_handFor_24 : decode cX8_handFor 24 = .ok (.iload 4, 2) := by decide +kernel
theorem dX8_handFor_26 : decode cX8_handFor 26 = .ok (.iadd, 1) := by decide +kernel
theorem dX8_handFor_27 : decode cX8_handFor 27 = .ok (.iaload, 1) := by decide +kernel
theorem dX8_handFor_28 : decode cX8_handFor 28 = .ok (.iload_n 1, 1) := by decide +kernel
theorem dX8_handFor_29 : decode cX8_handFor 29 = .ok (.invokestatic 89, 3) := by decide +kernel
theorem dX8_handFor_32 : decode cX8_handFor 32 = .ok (.istore 5, 2) := by decide +kernel
theorem dX8_handFor_34 : decode cX8_handFor 34 = .ok (.iload_n 2, 1) := by decide +kernel
theorem dX8_handFor_35 : decode cX8_handFor 35 = .ok (.aload_n 0, 1) := by decide +kernel
theorem dX8_handFor_36 : decode cX8_handFor 36 = .ok (.getfield 37, 3) := by decide +kernel
theorem dX8_handFor_39 : decode cX8_handFor 39 = .ok (.iload 4, 2) := by decide +kernel
theorem dX8_handFor_41 : decode cX8_handFor 41 = .ok (.iaload, 1) := by decide +kernel
theorem dX8_handFor_42 : decode cX8_handFor 42 = .ok (.isub, 1) := by decide +kernel
theorem dX8_handFor_43 : decode cX8_handFor 43 = .ok (.iload 5, 2) := by decide +kernel
theorem dX8_handFor_45 : decode cX8_handFor 45 = .ok (.if_icmp .lt 30, 3) := by decide +kernel
theorem dX8_handFor_48 : decode cX8_handFor 48 = .ok (.iload_n 3, 1) := by decide +kernel
theorem dX8_handFor_49 : decode cX8_handFor 49 = .ok (.bipush (-5), 2) := by decide +kernel
theorem dX8_handFor_51 : decode cX8_handFor 51 = .ok (.if_icmp .eq 21, 3) := by decide +kernel
theorem dX8_handFor_54 : decode cX8_handFor 54 = .ok (.iload 5, 2) := by decide +kernel
theorem dX8_handFor_56 : decode cX8_handFor 56 = .ok (.aload_n 0, 1) := by decide +kernel
theorem dX8_handFor_57 : decode cX8_handFor 57 = .ok (.getfield 7, 3) := by decide +kernel
theorem dX8_handFor_60 : decode cX8_handFor 60 = .ok (.bipush 31, 2) := by decide +kernel
theorem dX8_handFor_62 : decode cX8_handFor 62 = .ok (.iload_n 3, 1) := by decide +kernel
theorem dX8_handFor_63 : decode cX8_handFor 63 = .ok (.iadd, 1) := by decide +kernel
theorem dX8_handFor_64 : decode cX8_handFor 64 = .ok (.iaload, 1) := by decide +kernel
theorem dX8_handFor_65 : decode cX8_handFor 65 = .ok (.iload_n 1, 1) := by decide +kernel
theorem dX8_handFor_66 : decode cX8_handFor 66 = .ok (.invokestatic 89, 3) := by decide +kernel
theorem dX8_handFor_69 : decode cX8_handFor 69 = .ok (.if_icmp .ge 6, 3) := by decide +kernel
theorem dX8_handFor_72 : decode cX8_handFor 72 = .ok (.iload 4, 2) := by decide +kernel
theorem dX8_handFor_74 : decode cX8_handFor 74 = .ok (.istore_n 3, 1) := by decide +kernel
theorem dX8_handFor_75 : decode cX8_handFor 75 = .ok (.iinc 4 1, 3) := by decide +kernel
theorem dX8_handFor_78 : decode cX8_handFor 78 = .ok (.goto (-72), 3) := by decide +kernel
theorem dX8_handFor_81 : decode cX8_handFor 81 = .ok (.iload_n 3, 1) := by decide +kernel
theorem dX8_handFor_82 : decode cX8_handFor 82 = .ok (.ireturn, 1) := by decide +kernel
set_option maxRecDepth 20000 in
theorem ggX8_handFor_X8_apart : GoodIn wsX8_handFor wsX8_apart := goodIn_r _ [6] (by decide +kernel) (by decide +kernel)
set_option maxRecDepth 20000 in
theorem gX8_handFor_X8_apart : GoodIn wsX8_handFor (va_wsS RX8 89 yX8_apart wsX8_apart) := goodIn_app (goodIn_of _ (by decide +kernel)) ggX8_handFor_X8_apart
theorem iX8_handFor_8 : ∀ w ∈ u_ws RX8 TX8 25, w ∈ wsX8_handFor := fun w h => List.mem_cons_of_mem _ (List.mem_append_right _ (h))
set_option maxHeartbeats 4000000 in
set_option maxRecDepth 100000 in
theorem w_X8_handFor_L6 {p : Program} {l : Launch} {e : Env} {s : State} {m : MethodId} {args : Array Value} {below : List Frame} {meth : Method} {c : Code} {E : EE} {g : GG} {ad : Nat → Nat} (hg : gwf g) (X : CallFix p m c cX8_handFor 6 s args wsX8_handFor RX8) (K : Kn E s) (hr : meth.sig.returnType = (some .int)) (hlk : meth.locks = false) {Q : Int → Mm → Prop} : ∀ (n : Nat) (o0 : Nat) (x1 : Int) (x2 : Int) (x3 : Int) (x4 : Int) (M : Mm) (H : Heap) (locs : List Loc) (ls : Array Slot), gk g o0 = 8 → Rw E g ad M s.heap H locs → lv_has ls 6 [(0, .ref (ad o0)), (1, cI x1), (2, cI x2), (3, cI x3), (4, cI x4)] → p_X8_handFor_L6 g n o0 x1 x2 x3 x4 M Q → W p l e rmX8_handFor s m args below meth c H locs 0 0 (MQ below (QI E g ad Q) args s 0 0 (Rg g ad)) (F0 m 6 ls []) := by
  intro n
  induction n with
  | zero =>
    intro o0 x1 x2 x3 x4 M H locs ls k_o0 w hl h
    exact absurd h (by unfold p_X8_handFor_L6; exact id)
  | succ n ih =>
    intro o0 x1 x2 x3 x4 M H locs ls k_o0 w hl h
    unfold p_X8_handFor_L6 at h
    refine lv_iload X.1 X.2.1 dX8_handFor_6 (lv_at hl 4 rfl) ?_
    refine lv_aload_n X.1 X.2.1 dX8_handFor_8 rfl (lv_at hl 0 rfl) ?_
    refine r_getr (N := 25) (T := TX8) X K w iX8_handFor_8 k_o0 rfl (by decide) 0 (by decide) rfl rfl (List.mem_of_getElem? (i := 1) rfl) dX8_handFor_9 ?_
    have k1 : gk g (o0 + 1) = 9 := gch hg k_o0 (by decide) 0 (by decide) rfl rfl
    refine r_bipush X dX8_handFor_12 (by decide +kernel) ?_
    obtain ⟨b1, h⟩ := h
    refine r_iald X K w hg k1 (by decide) b1 dX8_handFor_14 ?_
    obtain ⟨i0, i1, h1, h2⟩ := h
    refine r_icmp_ge (tgt := 81) X i0 i1 dX8_handFor_15 (by decide) (fun cc => ?_) (fun cc => ?_)
    · have h := h1 cc
      refine lv_iload_n X.1 X.2.1 dX8_handFor_81 rfl (lv_at hl 3 rfl) ?_
      exact r_ireturn X hr hlk K w h dX8_handFor_82
    · have h := h2 cc
      refine lv_aload_n X.1 X.2.1 dX8_handFor_18 rfl (lv_at hl 0 rfl) ?_
      refine r_getr (N := 25) (T := TX8) X K w iX8_handFor_8 k_o0 rfl (by decide) 0 (by decide) rfl rfl (List.mem_of_getElem? (i := 1) rfl) dX8_handFor_19 ?_
      have k2 : gk g (o0 + 1) = 9 := gch hg k_o0 (by decide) 0 (by decide) rfl rfl
      refine r_bipush X dX8_handFor_22 (by decide +kernel) ?_
      refine lv_iload X.1 X.2.1 dX8_handFor_24 (lv_at hl 4 rfl) ?_
      refine r_iadd X dX8_handFor_26 ?_
      obtain ⟨b0, b1, h⟩ := h
      refine r_iald X K w hg k2 b0 b1 dX8_handFor_27 ?_
      refine lv_iload_n X.1 X.2.1 dX8_handFor_28 rfl (lv_at hl 1 rfl) ?_
      refine q_i (x_S (As := [cI (M (o0 + 1) (31 + x4)), cI x1]) (rest := []) X K w (c_X8_apart hg h) (va_cwS 2 X.2.2.2.2 gX8_handFor_X8_apart rfl rfl rfl (by decide +kernel) ⟨Nat.le_of_ble_eq_true rfl, Nat.le_of_ble_eq_true rfl⟩) rfl hl rfl (Nat.le_of_ble_eq_true rfl) dX8_handFor_29 ⟨Nat.le_of_ble_eq_true rfl, Nat.le_of_ble_eq_true rfl⟩) w (fun r4 M3 H locs h w => ?_)
      refine lv_istore (lv' := [(5, cI r4), (0, .ref (ad o0)), (1, cI x1), (2, cI x2), (3, cI x3), (4, cI x4)]) X.1 X.2.1 dX8_handFor_32 hl (by decide) rfl (fun ls hl => ?_)
      refine lv_iload_n X.1 X.2.1 dX8_handFor_34 rfl (lv_at hl 3 rfl) ?_
      refine lv_aload_n X.1 X.2.1 dX8_handFor_35 rfl (lv_at hl 1 rfl) ?_
      refine r_getr (N := 25) (T := TX8) X K w iX8_handFor_8 k_o0 rfl (by decide) 11 (by decide) rfl rfl (List.mem_of_getElem? (i := 2) rfl) dX8_handFor_36 ?_
      have k5 : gk g (o0 + 10) = 9 := gch hg k_o0 (by decide) 11 (by decide) rfl rfl
      refine lv_iload X.1 X.2.1 dX8_handFor_39 (lv_at hl 5 rfl) ?_
      obtain ⟨b0, b1, h⟩ := h
      refine r_iald X K w hg k5 b0 b1 dX8_handFor_41 ?_
      refine r_isub X dX8_handFor_42 ?_
      refine lv_iload X.1 X.2.1 dX8_handFor_43 (lv_at hl 0 rfl) ?_
      obtain ⟨i0, i1, h1, h2⟩ := h
      refine r_icmp_lt (tgt := 75) X i0 i1 dX8_handFor_45 (by decide) (fun cc => ?_) (fun cc => ?_)
      · have h := h1 cc
        refine r_iinc (lv' := [(4, cI (x4 + 1)), (5, cI r4), (0, .ref (ad o0)), (1, cI x1), (2, cI x2), (3, cI x3)]) X hl (k := 5) rfl (by decide) dX8_handFor_75 rfl (fun ls hl => ?_)
        refine lv_goto (tgt := 6) X.1 X.2.1 dX8_handFor_78 (by decide) ?_
        exact ih o0 x1 x2 x3 (x4 + 1) M3 _ _ _ k_o0 w (lv_sub hl [2, 3, 4, 5, 0] rfl) h
      · have h := h2 cc
        refine lv_iload_n X.1 X.2.1 dX8_handFor_48 rfl (lv_at hl 4 rfl) ?_
        refine r_bipush X dX8_handFor_49 (by decide +kernel) ?_
        obtain ⟨i0, h1, h2⟩ := h
        refine r_icmp_eq (tgt := 72) X i0 ⟨by decide, by decide⟩ dX8_handFor_51 (by decide) (fun cc => ?_) (fun cc => ?_)
        · have h := h1 cc
          refine lv_iload X.1 X.2.1 dX8_handFor_72 (lv_at hl 5 rfl) ?_
          refine lv_istore_n (lv' := [(3, cI x4), (5, cI r4), (0, .ref (ad o0)), (1, cI x1), (2, cI x2), (4, cI x4)]) X.1 X.2.1 dX8_handFor_74 rfl hl (by decide) rfl (fun ls hl => ?_)
          refine r_iinc (lv' := [(4, cI (x4 + 1)), (3, cI x4), (5, cI r4), (0, .ref (ad o0)), (1, cI x1), (2, cI x2)]) X hl (k := 5) rfl (by decide) dX8_handFor_75 rfl (fun ls hl => ?_)
          refine lv_goto (tgt := 6) X.1 X.2.1 dX8_handFor_78 (by decide) ?_
          exact ih o0 x1 x2 x4 (x4 + 1) M3 _ _ _ k_o0 w (lv_sub hl [3, 4, 5, 1, 0] rfl) h
        · have h := h2 cc
          refine lv_iload X.1 X.2.1 dX8_handFor_54 (lv_at hl 0 rfl) ?_
          refine lv_aload_n X.1 X.2.1 dX8_handFor_56 rfl (lv_at hl 1 rfl) ?_
          refine r_getr (N := 25) (T := TX8) X K w iX8_handFor_8 k_o0 rfl (by decide) 0 (by decide) rfl rfl (List.mem_of_getElem? (i := 1) rfl) dX8_handFor_57 ?_
          have k6 : gk g (o0 + 1) = 9 := gch hg k_o0 (by decide) 0 (by decide) rfl rfl
          refine r_bipush X dX8_handFor_60 (by decide +kernel) ?_
          refine lv_iload_n X.1 X.2.1 dX8_handFor_62 rfl (lv_at hl 4 rfl) ?_
          refine r_iadd X dX8_handFor_63 ?_
          obtain ⟨b0, b1, h⟩ := h
          refine r_iald X K w hg k6 b0 b1 dX8_handFor_64 ?_
          refine lv_iload_n X.1 X.2.1 dX8_handFor_65 rfl (lv_at hl 2 rfl) ?_
          refine q_i (x_S (As := [cI (M3 (o0 + 1) (31 + x3)), cI x1]) (rest := [cI r4]) X K w (c_X8_apart hg h) (va_cwS 2 X.2.2.2.2 gX8_handFor_X8_apart rfl rfl rfl (by decide +kernel) ⟨Nat.le_of_ble_eq_true rfl, Nat.le_of_ble_eq_true rfl⟩) rfl hl rfl (Nat.le_of_ble_eq_true rfl) dX8_handFor_66 ⟨Nat.le_of_ble_eq_true rfl, Nat.le_of_ble_eq_true rfl⟩) w (fun r8 M7 H locs h w => ?_)
          obtain ⟨i0, i1, h1, h2⟩ := h
          refine r_icmp_ge (tgt := 75) X i0 i1 dX8_handFor_69 (by decide) (fun cc => ?_) (fun cc => ?_)
          · have h := h1 cc
            refine r_iinc (lv' := [(4, cI (x4 + 1)), (5, cI r4), (0, .ref (ad o0)), (1, cI x1), (2, cI x2), (3, cI x3)]) X hl (k := 5) rfl (by decide) dX8_handFor_75 rfl (fun ls hl => ?_)
            refine lv_goto (tgt := 6) X.1 X.2.1 dX8_handFor_78 (by decide) ?_
            exact ih o0 x1 x2 x3 (x4 + 1) M7 _ _ _ k_o0 w (lv_sub hl [2, 3, 4, 5, 0] rfl) h
          · have h := h2 cc
            refine lv_iload X.1 X.2.1 dX8_handFor_72 (lv_at hl 5 rfl) ?_
            refine lv_istore_n (lv' := [(3, cI x4), (5, cI r4), (0, .ref (ad o0)), (1, cI x1), (2, cI x2), (4, cI x4)]) X.1 X.2.1 dX8_handFor_74 rfl hl (by decide) rfl (fun ls hl => ?_)
            refine r_iinc (lv' := [(4, cI (x4 + 1)), (3, cI x4), (5, cI r4), (0, .ref (ad o0)), (1, cI x1), (2, cI x2)]) X hl (k := 5) rfl (by decide) dX8_handFor_75 rfl (fun ls hl => ?_)
            refine lv_goto (tgt := 6) X.1 X.2.1 dX8_handFor_78 (by decide) ?_
            exact ih o0 x1 x2 x4 (x4 + 1) M7 _ _ _ k_o0 w (lv_sub hl [3, 4, 5, 1, 0] rfl) h
set_option maxHeartbeats 4000000 in
set_option maxRecDepth 100000 in
theorem c_X8_handFor {E : EE} {l : Launch} {g : GG} {ad : Nat → Nat} (hg : gwf g) {o0 : Nat} {x1 : Int} {x2 : Int} {M : Mm} {Q : Int → Mm → Prop} (k_o0 : gk g o0 = 8) (h : p_X8_handFor g o0 x1 x2 M Q) : Ct E l yX8_handFor wsX8_handFor rmX8_handFor g ad [.ref (ad o0), cI x1, cI x2] M (QI E g ad Q) := by
  refine ent (cc := cX8_handFor) (maxL := 6) (ret := (some .int)) (own := RX8) (by decide +kernel) rfl rfl (Nat.le_of_ble_eq_true rfl) ?_
  intro p e s m below meth c ls X hr hlk K w hl
  have hl : lv_has ls 6 [(0, .ref (ad o0)), (1, cI x1), (2, cI x2)] := hl
  unfold p_X8_handFor at h
  refine r_bipush X dX8_handFor_0 (by decide +kernel) ?_
  refine lv_istore_n (lv' := [(3, cI (-5)), (0, .ref (ad o0)), (1, cI x1), (2, cI x2)]) X.1 X.2.1 dX8_handFor_2 rfl hl (by decide) rfl (fun ls hl => ?_)
  refine r_iconst X dX8_handFor_3 ?_
  refine lv_istore (lv' := [(4, cI 0), (3, cI (-5)), (0, .ref (ad o0)), (1, cI x1), (2, cI x2)]) X.1 X.2.1 dX8_handFor_4 hl (by decide) rfl (fun ls hl => ?_)
  obtain ⟨n9, h⟩ := h
  exact w_X8_handFor_L6 hg X K hr hlk n9 o0 x1 x2 (-5) 0 M _ _ _ k_o0 w (lv_sub hl [2, 3, 4, 1, 0] rfl) h
theorem dX8_isThere_0 : decode cX8_isThere 0 = .ok (.aload_n 0, 1) := by decide +kernel
theorem dX8_isThere_1 : decode cX8_isThere 1 = .ok (.iload_n 1, 1) := by decide +kernel
theorem dX8_isThere_2 : decode cX8_isThere 2 = .ok (.iconst 2, 1) := by decide +kernel
theorem dX8_isThere_3 : decode cX8_isThere 3 = .ok (.invokevirtual 77, 3) := by decide +kernel
theorem dX8_isThere_6 : decode cX8_isThere 6 = .ok (.istore_n 2, 1) := by decide +kernel
theorem dX8_isThere_7 : decode cX8_isThere 7 = .ok (.aload_n 0, 1) := by decide +kernel
theorem dX8_isThere_8 : decode cX8_isThere 8 = .ok (.getfield 46, 3) := by decide +kernel
theorem dX8_isThere_11 : decode cX8_isThere 11 = .ok (.iload_n 2, 1) := by decide +kernel
theorem dX8_isThere_12 : decode cX8_isThere 12 = .ok (.iaload, 1) := by decide +kernel
theorem dX8_isThere_13 : decode cX8_isThere 13 = .ok (.bipush (-5), 2) := by decide +kernel
theorem dX8_isThere_15 : decode cX8_isThere 15 = .ok (.if_icmp .ne 5, 3) := by decide +kernel
theorem dX8_isThere_18 : decode cX8_isThere 18 = .ok (.iconst 1, 1) := by decide +kernel
theorem dX8_isThere_19 : decode cX8_isThere 19 = .ok (.ireturn, 1) := by decide +kernel
theorem dX8_isThere_20 : decode cX8_isThere 20 = .ok (.aload_n 0, 1) := by decide +kernel
theorem dX8_isThere_21 : decode cX8_isThere 21 = .ok (.iload_n 1, 1) := by decide +kernel
theorem dX8_isThere_22 : decode cX8_isThere 22 = .ok (.iconst 1, 1) := by decide +kernel
theorem dX8_isThere_23 : decode cX8_isThere 23 = .ok (.invokevirtual 77, 3) := by decide +kernel
theorem dX8_isThere_26 : decode cX8_isThere 26 = .ok (.aload_n 0, 1) := by decide +kernel
theorem dX8_isThere_27 : decode cX8_isThere 27 = .ok (.getfield 49, 3) := by decide +kernel
theorem dX8_isThere_30 : decode cX8_isThere 30 = .ok (.iload_n 2, 1) := by decide +kernel
theorem dX8_isThere_31 : decode cX8_isThere 31 = .ok (.iaload, 1) := by decide +kernel
theorem dX8_isThere_32 : decode cX8_isThere 32 = .ok (.isub, 1) := by decide +kernel
theorem dX8_isThere_33 : decode cX8_isThere 33 = .ok (.istore_n 3, 1) := by decide +kernel
theorem dX8_isThere_34 : decode cX8_isThere 34 = .ok (.iload_n 3, 1) := by decide +kernel
theorem dX8_isThere_35 : decode cX8_isThere 35 = .ok (.aload_n 0, 1) := by decide +kernel
theorem dX8_isThere_36 : decode cX8_isThere 36 = .ok (.getfield 46, 3) := by decide +kernel
theorem dX8_isThere_39 : decode cX8_isThere 39 = .ok (.iload_n 2, 1) := by decide +kernel
theorem dX8_isThere_40 : decode cX8_isThere 40 = .ok (.iaload, 1) := by decide +kernel
theorem dX8_isThere_41 : decode cX8_isThere 41 = .ok (.aload_n 0, 1) := by decide +kernel
theorem dX8_isThere_42 : decode cX8_isThere 42 = .ok (.iload_n 1, 1) := by decide +kernel
theorem dX8_isThere_43 : decode cX8_isThere 43 = .ok (.iconst 0, 1) := by decide +kernel
theorem dX8_isThere_44 : decode cX8_isThere 44 = .ok (.invokevirtual 77, 3) := by decide +kernel
theorem dX8_isThere_47 : decode cX8_isThere 47 = .ok (.if_icmp .ne 7, 3) := by decide +kernel
theorem dX8_isThere_50 : decode cX8_isThere 50 = .ok (.iconst 0, 1) := by decide +kernel
theorem dX8_isThere_51 : decode cX8_isThere 51 = .ok (.goto 10, 3) := by decide +kernel
theorem dX8_isThere_54 : decode cX8_isThere 54 = .ok (.aload_n 0, 1) := by decide +kernel
theorem dX8_isThere_55 : decode cX8_isThere 55 = .ok (.getfield 7, 3) := by decide +kernel
theorem dX8_isThere_58 : decode cX8_isThere 58 = .ok (.bipush 35, 2) := by decide +kernel
theorem dX8_isThere_60 : decode cX8_isThere 60 = .ok (.iaload, 1) := by decide +kernel
theorem dX8_isThere_61 : decode cX8_isThere 61 = .ok (.if_icmp .lt 7, 3) := by decide +kernel
theorem dX8_isThere_64 : decode cX8_isThere 64 = .ok (.iconst 1, 1) := by decide +kernel
theorem dX8_isThere_65 : decode cX8_isThere 65 = .ok (.goto 4, 3) := by decide +kernel
theorem dX8_isThere_68 : decode cX8_isThere 68 = .ok (.iconst 0, 1) := by decide +kernel
theorem dX8_isThere_69 : decode cX8_isThere 69 = .ok (.ireturn, 1) := by decide +kernel
set_option maxRecDepth 20000 in
theorem ggX8_isThere_X8_of : GoodIn wsX8_isThere wsX8_of := goodIn_r _ [8, 3, 9, 10, 11, 12, 13, 14, 15, 16, 17, 18, 19, 20, 21, 22, 23, 24, 25, 26, 27, 28, 29, 30, 31, 32, 33] (by decide +kernel) (by decide +kernel)
set_option maxRecDepth 20000 in
theorem gX8_isThere_X8_of : GoodIn wsX8_isThere (wsV RX8 77 RX8 yX8_of wsX8_of) := goodIn_app (goodIn_of _ (by decide +kernel)) ggX8_isThere_X8_of
theorem iX8_isThere_8 : ∀ w ∈ u_ws RX8 TX8 25, w ∈ wsX8_isThere := fun w h => List.mem_cons_of_mem _ (List.mem_append_right _ (h))
set_option maxHeartbeats 4000000 in
set_option maxRecDepth 100000 in
theorem w_X8_isThere_J61 {p : Program} {l : Launch} {e : Env} {s : State} {m : MethodId} {args : Array Value} {below : List Frame} {meth : Method} {c : Code} {E : EE} {g : GG} {ad : Nat → Nat} (hg : gwf g) (X : CallFix p m c cX8_isThere 4 s args wsX8_isThere RX8) (K : Kn E s) (hr : meth.sig.returnType = (some .boolean)) (hlk : meth.locks = false) {Q : Int → Mm → Prop} : ∀ (y0 : Int) (y1 : Int) (M : Mm) (H : Heap) (locs : List Loc) (ls : Array Slot), Rw E g ad M s.heap H locs → lv_has ls 4 [] → p_X8_isThere_J61 g y0 y1 M Q → W p l e rmX8_isThere s m args below meth c H locs 0 0 (MQ below (QI E g ad Q) args s 0 0 (Rg g ad)) (F0 m 61 ls [cI y1, cI y0]) := by
  intro y0 y1 M H locs ls w hl h
  unfold p_X8_isThere_J61 at h
  obtain ⟨i0, i1, h1, h2⟩ := h
  refine r_icmp_lt (tgt := 68) X i0 i1 dX8_isThere_61 (by decide) (fun cc => ?_) (fun cc => ?_)
  · have h := h1 cc
    refine r_iconst X dX8_isThere_68 ?_
    exact r_zreturn X hr hlk K w (by decide +kernel) h dX8_isThere_69
  · have h := h2 cc
    refine r_iconst X dX8_isThere_64 ?_
    refine lv_goto (tgt := 69) X.1 X.2.1 dX8_isThere_65 (by decide) ?_
    exact r_zreturn X hr hlk K w (by decide +kernel) h dX8_isThere_69
set_option maxHeartbeats 4000000 in
set_option maxRecDepth 100000 in
theorem c_X8_isThere {E : EE} {l : Launch} {g : GG} {ad : Nat → Nat} (hg : gwf g) {o0 : Nat} {x1 : Int} {M : Mm} {Q : Int → Mm → Prop} (k_o0 : gk g o0 = 8) (h : p_X8_isThere g o0 x1 M Q) : Ct E l yX8_isThere wsX8_isThere rmX8_isThere g ad [.ref (ad o0), cI x1] M (QI E g ad Q) := by
  refine ent (cc := cX8_isThere) (maxL := 4) (ret := (some .boolean)) (own := RX8) (by decide +kernel) rfl rfl (Nat.le_of_ble_eq_true rfl) ?_
  intro p e s m below meth c ls X hr hlk K w hl
  have hl : lv_has ls 4 [(0, .ref (ad o0)), (1, cI x1)] := hl
  unfold p_X8_isThere at h
  refine lv_aload_n X.1 X.2.1 dX8_isThere_0 rfl (lv_at hl 0 rfl) ?_
  refine lv_iload_n X.1 X.2.1 dX8_isThere_1 rfl (lv_at hl 1 rfl) ?_
  refine r_iconst X dX8_isThere_2 ?_
  refine q_i (x_V (As := [cI x1, cI 2]) (rest := []) X K w (c_X8_of hg k_o0 h) (cwV 2 X.2.2.2.2 gX8_isThere_X8_of rfl rfl rfl (by decide +kernel) ⟨Nat.le_of_ble_eq_true rfl, Nat.le_of_ble_eq_true rfl⟩) k_o0 (by decide) rfl rfl hl rfl (Nat.le_of_ble_eq_true rfl) dX8_isThere_3 ⟨Nat.le_of_ble_eq_true rfl, Nat.le_of_ble_eq_true rfl⟩) w (fun r2 M1 H locs h w => ?_)
  refine lv_istore_n (lv' := [(2, cI r2), (0, .ref (ad o0)), (1, cI x1)]) X.1 X.2.1 dX8_isThere_6 rfl hl (by decide) rfl (fun ls hl => ?_)
  refine lv_aload_n X.1 X.2.1 dX8_isThere_7 rfl (lv_at hl 1 rfl) ?_
  refine r_getr (N := 25) (T := TX8) X K w iX8_isThere_8 k_o0 rfl (by decide) 14 (by decide) rfl rfl (List.mem_of_getElem? (i := 1) rfl) dX8_isThere_8 ?_
  have k3 : gk g (o0 + 13) = 9 := gch hg k_o0 (by decide) 14 (by decide) rfl rfl
  refine lv_iload_n X.1 X.2.1 dX8_isThere_11 rfl (lv_at hl 0 rfl) ?_
  obtain ⟨b0, b1, h⟩ := h
  refine r_iald X K w hg k3 b0 b1 dX8_isThere_12 ?_
  refine r_bipush X dX8_isThere_13 (by decide +kernel) ?_
  obtain ⟨i0, h1, h2⟩ := h
  refine r_icmp_ne (tgt := 20) X i0 ⟨by decide, by decide⟩ dX8_isThere_15 (by decide) (fun cc => ?_) (fun cc => ?_)
  · have h := h1 cc
    refine lv_aload_n X.1 X.2.1 dX8_isThere_20 rfl (lv_at hl 1 rfl) ?_
    refine lv_iload_n X.1 X.2.1 dX8_isThere_21 rfl (lv_at hl 2 rfl) ?_
    refine r_iconst X dX8_isThere_22 ?_
    refine q_i (x_V (As := [cI x1, cI 1]) (rest := []) X K w (c_X8_of hg k_o0 h) (cwV 2 X.2.2.2.2 gX8_isThere_X8_of rfl rfl rfl (by decide +kernel) ⟨Nat.le_of_ble_eq_true rfl, Nat.le_of_ble_eq_true rfl⟩) k_o0 (by decide) rfl rfl hl rfl (Nat.le_of_ble_eq_true rfl) dX8_isThere_23 ⟨Nat.le_of_ble_eq_true rfl, Nat.le_of_ble_eq_true rfl⟩) w (fun r5 M4 H locs h w => ?_)
    refine lv_aload_n X.1 X.2.1 dX8_isThere_26 rfl (lv_at hl 1 rfl) ?_
    refine r_getr (N := 25) (T := TX8) X K w iX8_isThere_8 k_o0 rfl (by decide) 15 (by decide) rfl rfl (List.mem_of_getElem? (i := 2) rfl) dX8_isThere_27 ?_
    have k6 : gk g (o0 + 14) = 9 := gch hg k_o0 (by decide) 15 (by decide) rfl rfl
    refine lv_iload_n X.1 X.2.1 dX8_isThere_30 rfl (lv_at hl 0 rfl) ?_
    obtain ⟨b0, b1, h⟩ := h
    refine r_iald X K w hg k6 b0 b1 dX8_isThere_31 ?_
    refine r_isub X dX8_isThere_32 ?_
    refine lv_istore_n (lv' := [(3, cI (r5 - (M4 (o0 + 14) r2))), (2, cI r2), (0, .ref (ad o0)), (1, cI x1)]) X.1 X.2.1 dX8_isThere_33 rfl hl (by decide) rfl (fun ls hl => ?_)
    refine lv_iload_n X.1 X.2.1 dX8_isThere_34 rfl (lv_at hl 0 rfl) ?_
    refine lv_aload_n X.1 X.2.1 dX8_isThere_35 rfl (lv_at hl 2 rfl) ?_
    refine r_getr (N := 25) (T := TX8) X K w iX8_isThere_8 k_o0 rfl (by decide) 14 (by decide) rfl rfl (List.mem_of_getElem? (i := 1) rfl) dX8_isThere_36 ?_
    have k7 : gk g (o0 + 13) = 9 := gch hg k_o0 (by decide) 14 (by decide) rfl rfl
    refine lv_iload_n X.1 X.2.1 dX8_isThere_39 rfl (lv_at hl 1 rfl) ?_
    obtain ⟨b0, b1, h⟩ := h
    refine r_iald X K w hg k7 b0 b1 dX8_isThere_40 ?_
    refine lv_aload_n X.1 X.2.1 dX8_isThere_41 rfl (lv_at hl 2 rfl) ?_
    refine lv_iload_n X.1 X.2.1 dX8_isThere_42 rfl (lv_at hl 3 rfl) ?_
    refine r_iconst X dX8_isThere_43 ?_
    refine q_i (x_V (As := [cI x1, cI 0]) (rest := [cI (M4 (o0 + 13) r2), cI (r5 - (M4 (o0 + 14) r2))]) X K w (c_X8_of hg k_o0 h) (cwV 2 X.2.2.2.2 gX8_isThere_X8_of rfl rfl rfl (by decide +kernel) ⟨Nat.le_of_ble_eq_true rfl, Nat.le_of_ble_eq_true rfl⟩) k_o0 (by decide) rfl rfl hl rfl (Nat.le_of_ble_eq_true rfl) dX8_isThere_44 ⟨Nat.le_of_ble_eq_true rfl, Nat.le_of_ble_eq_true rfl⟩) w (fun r9 M8 H locs h w => ?_)
    obtain ⟨i0, i1, h1, h2⟩ := h
    refine r_icmp_ne (tgt := 54) X i0 i1 dX8_isThere_47 (by decide) (fun cc => ?_) (fun cc => ?_)
    · have h := h1 cc
      refine lv_aload_n X.1 X.2.1 dX8_isThere_54 rfl (lv_at hl 2 rfl) ?_
      refine r_getr (N := 25) (T := TX8) X K w iX8_isThere_8 k_o0 rfl (by decide) 0 (by decide) rfl rfl (List.mem_of_getElem? (i := 3) rfl) dX8_isThere_55 ?_
      have k10 : gk g (o0 + 1) = 9 := gch hg k_o0 (by decide) 0 (by decide) rfl rfl
      refine r_bipush X dX8_isThere_58 (by decide +kernel) ?_
      obtain ⟨b1, h⟩ := h
      refine r_iald X K w hg k10 (by decide) b1 dX8_isThere_60 ?_
      exact w_X8_isThere_J61 hg X K hr hlk (r5 - (M4 (o0 + 14) r2)) (M8 (o0 + 1) 35) M8 _ _ _ w (lv_sub hl [] rfl) h
    · have h := h2 cc
      refine r_iconst X dX8_isThere_50 ?_
      refine lv_goto (tgt := 61) X.1 X.2.1 dX8_isThere_51 (by decide) ?_
      exact w_X8_isThere_J61 hg X K hr hlk (r5 - (M4 (o0 + 14) r2)) 0 M8 _ _ _ w (lv_sub hl [] rfl) h
  · have h := h2 cc
    refine r_iconst X dX8_isThere_18 ?_
    exact r_zreturn X hr hlk K w (by decide +kernel) h dX8_isThere_19
