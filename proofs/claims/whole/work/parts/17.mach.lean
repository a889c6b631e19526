/-! contracts of the methods, by gen.py: X8_type, X8_clearText, X8_isHere, X8_takes, X8_readsNumber, X8_readsCue, X8_fault, X8_rankRead, X8_isTwice, X8_readCues, X8_removeCue -/
theorem dX8_type_0 : decode cX8_type 0 = .ok (.aload_n 0, 1) := by decide +kernel
theorem dX8_type_1 : decode cX8_type 1 = .ok (.getfield 140, 3) := by decide +kernel
theorem dX8_type_4 : decode cX8_type 4 = .ok (.bipush 60, 2) := by decide +kernel
theorem dX8_type_6 : decode cX8_type 6 = .ok (.if_icmp .ne 6, 3) := by decide +kernel
theorem dX8_type_9 : decode cX8_type 9 = .ok (.bipush (-3), 2) := by decide +kernel
theorem dX8_type_11 : decode cX8_type 11 = .ok (.ireturn, 1) := by decide +kernel
theorem dX8_type_12 : decode cX8_type 12 = .ok (.aload_n 0, 1) := by decide +kernel
theorem dX8_type_13 : decode cX8_type 13 = .ok (.getfield 55, 3) := by decide +kernel
theorem dX8_type_16 : decode cX8_type 16 = .ok (.aload_n 0, 1) := by decide +kernel
theorem dX8_type_17 : decode cX8_type 17 = .ok (.getfield 140, 3) := by decide +kernel
theorem dX8_type_20 : decode cX8_type 20 = .ok (.iload_n 1, 1) := by decide +kernel
theorem dX8_type_21 : decode cX8_type 21 = .ok (.iastore, 1) := by decide +kernel
theorem dX8_type_22 : decode cX8_type 22 = .ok (.aload_n 0, 1) := by decide +kernel
theorem dX8_type_23 : decode cX8_type 23 = .ok (.dup, 1) := by decide +kernel
theorem dX8_type_24 : decode cX8_type 24 = .ok (.getfield 140, 3) := by decide +kernel
theorem dX8_type_27 : decode cX8_type 27 = .ok (.iconst 1, 1) := by decide +kernel
theorem dX8_type_28 : decode cX8_type 28 = .ok (.iadd, 1) := by decide +kernel
theorem dX8_type_29 : decode cX8_type 29 = .ok (.putfield 140, 3) := by decide +kernel
theorem dX8_type_32 : decode cX8_type 32 = .ok (.aload_n 0, 1) := by decide +kernel
theorem dX8_type_33 : decode cX8_type 33 = .ok (.getfield 140, 3) := by decide +kernel
theorem dX8_type_36 : decode cX8_type 36 = .ok (.ireturn, 1) := by decide +kernel
theorem iX8_type_8 : ∀ w ∈ u_ws RX8 TX8 25, w ∈ wsX8_type := fun w h => List.mem_cons_of_mem _ (List.mem_append_right _ (h))
set_option maxHeartbeats 4000000 in
set_option maxRecDepth 100000 in
theorem c_X8_type {E : EE} {l : Launch} {g : GG} {ad : Nat → Nat} (hg : gwf g) {o0 : Nat} {x1 : Int} {M : Mm} {Q : Int → Mm → Prop} (k_o0 : gk g o0 = 8) (h : p_X8_type g o0 x1 M Q) : Ct E l yX8_type wsX8_type rmX8_type g ad [.ref (ad o0), cI x1] M (QI E g ad Q) := by
  refine ent (cc := cX8_type) (maxL := 2) (ret := (some .int)) (own := RX8) (by decide +kernel) rfl rfl (Nat.le_of_ble_eq_true rfl) ?_
  intro p e s m below meth c ls X hr hlk K w hl
  have hl : lv_has ls 2 [(0, .ref (ad o0)), (1, cI x1)] := hl
  unfold p_X8_type at h
  refine lv_aload_n X.1 X.2.1 dX8_type_0 rfl (lv_at hl 0 rfl) ?_
  refine r_geti (N := 25) (T := TX8) (kz := 20) X K w iX8_type_8 k_o0 rfl (by decide) 20 (by decide) rfl rfl rfl (List.mem_of_getElem? (i := 1) rfl) dX8_type_1 ?_
  refine r_bipush X dX8_type_4 (by decide +kernel) ?_
  obtain ⟨i0, h1, h2⟩ := h
  refine r_icmp_ne (tgt := 12) X i0 ⟨by decide, by decide⟩ dX8_type_6 (by decide) (fun cc => ?_) (fun cc => ?_)
  · have h := h1 cc
    refine lv_aload_n X.1 X.2.1 dX8_type_12 rfl (lv_at hl 0 rfl) ?_
    refine r_getr (N := 25) (T := TX8) X K w iX8_type_8 k_o0 rfl (by decide) 19 (by decide) rfl rfl (List.mem_of_getElem? (i := 2) rfl) dX8_type_13 ?_
    have k1 : gk g (o0 + 16) = 9 := gch hg k_o0 (by decide) 19 (by decide) rfl rfl
    refine lv_aload_n X.1 X.2.1 dX8_type_16 rfl (lv_at hl 0 rfl) ?_
    refine r_geti (N := 25) (T := TX8) (kz := 20) X K w iX8_type_8 k_o0 rfl (by decide) 20 (by decide) rfl rfl rfl (List.mem_of_getElem? (i := 1) rfl) dX8_type_17 ?_
    refine lv_iload_n X.1 X.2.1 dX8_type_20 rfl (lv_at hl 1 rfl) ?_
    obtain ⟨b0, b1, h⟩ := h
    refine r_iast X K w hg k1 b0 b1 dX8_type_21 (fun M2 H locs e w => ?_)
    replace h := h M2 e
    refine lv_aload_n X.1 X.2.1 dX8_type_22 rfl (lv_at hl 0 rfl) ?_
    refine lv_dup X.1 X.2.1 dX8_type_23 rfl ?_
    refine r_geti (N := 25) (T := TX8) (kz := 20) X K w iX8_type_8 k_o0 rfl (by decide) 20 (by decide) rfl rfl rfl (List.mem_of_getElem? (i := 1) rfl) dX8_type_24 ?_
    refine r_iconst X dX8_type_27 ?_
    refine r_iadd X dX8_type_28 ?_
    refine r_puti (N := 25) (T := TX8) (kz := 20) (ty := .int) X K w iX8_type_8 tyX8 tyX8_ok nmX8 k_o0 rfl (by decide) 20 (by decide) rfl rfl rfl rfl (by decide +kernel) rfl rfl (List.mem_of_getElem? (i := 1) rfl) dX8_type_29 (fun M3 H locs e w => ?_)
    replace h := h M3 e
    refine lv_aload_n X.1 X.2.1 dX8_type_32 rfl (lv_at hl 0 rfl) ?_
    refine r_geti (N := 25) (T := TX8) (kz := 20) X K w iX8_type_8 k_o0 rfl (by decide) 20 (by decide) rfl rfl rfl (List.mem_of_getElem? (i := 1) rfl) dX8_type_33 ?_
    exact r_ireturn X hr hlk K w h dX8_type_36
  · have h := h2 cc
    refine r_bipush X dX8_type_9 (by decide +kernel) ?_
    exact r_ireturn X hr hlk K w h dX8_type_11
theorem dX8_clearText_0 : decode cX8_clearText 0 = .ok (.aload_n 0, 1) := by decide +kernel
theorem dX8_clearText_1 : decode cX8_clearText 1 = .ok (.getfield 140, 3) := by decide +kernel
theorem dX8_clearText_4 : decode cX8_clearText 4 = .ok (.istore_n 1, 1) := by decide +kernel
theorem dX8_clearText_5 : decode cX8_clearText 5 = .ok (.aload_n 0, 1) := by decide +kernel
theorem dX8_clearText_6 : decode cX8_clearText 6 = .ok (.iconst 0, 1) := by decide +kernel
theorem dX8_clearText_7 : decode cX8_clearText 7 = .ok (.putfield 140, 3) := by decide +kernel
theorem dX8_clearText_10 : decode cX8_clearText 10 = .ok (.iload_n 1, 1) := by decide +kernel
theorem dX8_clearText_11 : decode cX8_clearText 11 = .ok (.ireturn, 1) := by decide +kernel
theorem iX8_clearText_8 : ∀ w ∈ u_ws RX8 TX8 25, w ∈ wsX8_clearText := fun w h => List.mem_cons_of_mem _ (List.mem_append_right _ (h))
set_option maxHeartbeats 4000000 in
set_option maxRecDepth 100000 in
theorem c_X8_clearText {E : EE} {l : Launch} {g : GG} {ad : Nat → Nat} (hg : gwf g) {o0 : Nat} {M : Mm} {Q : Int → Mm → Prop} (k_o0 : gk g o0 = 8) (h : p_X8_clearText g o0 M Q) : Ct E l yX8_clearText wsX8_clearText rmX8_clearText g ad [.ref (ad o0)] M (QI E g ad Q) := by
  refine ent (cc := cX8_clearText) (maxL := 2) (ret := (some .int)) (own := RX8) (by decide +kernel) rfl rfl (Nat.le_of_ble_eq_true rfl) ?_
  intro p e s m below meth c ls X hr hlk K w hl
  have hl : lv_has ls 2 [(0, .ref (ad o0))] := hl
  unfold p_X8_clearText at h
  refine lv_aload_n X.1 X.2.1 dX8_clearText_0 rfl (lv_at hl 0 rfl) ?_
  refine r_geti (N := 25) (T := TX8) (kz := 20) X K w iX8_clearText_8 k_o0 rfl (by decide) 20 (by decide) rfl rfl rfl (List.mem_of_getElem? (i := 1) rfl) dX8_clearText_1 ?_
  refine lv_istore_n (lv' := [(1, cI (M o0 20)), (0, .ref (ad o0))]) X.1 X.2.1 dX8_clearText_4 rfl hl (by decide) rfl (fun ls hl => ?_)
  refine lv_aload_n X.1 X.2.1 dX8_clearText_5 rfl (lv_at hl 1 rfl) ?_
  refine r_iconst X dX8_clearText_6 ?_
  refine r_puti (N := 25) (T := TX8) (kz := 20) (ty := .int) X K w iX8_clearText_8 tyX8 tyX8_ok nmX8 k_o0 rfl (by decide) 20 (by decide) rfl rfl rfl rfl (by decide +kernel) rfl rfl (List.mem_of_getElem? (i := 1) rfl) dX8_clearText_7 (fun M1 H locs e w => ?_)
  replace h := h M1 e
  refine lv_iload_n X.1 X.2.1 dX8_clearText_10 rfl (lv_at hl 0 rfl) ?_
  exact r_ireturn X hr hlk K w h dX8_clearText_11
theorem dX8_isHere_0 : decode cX8_isHere 0 = .ok (.aload_n 0, 1) := by decide +kernel
theorem dX8_isHere_1 : decode cX8_isHere 1 = .ok (.getfield 143, 3) := by decide +kernel
theorem dX8_isHere_4 : decode cX8_isHere 4 = .ok (.aload_n 0, 1) := by decide +kernel
theorem dX8_isHere_5 : decode cX8_isHere 5 = .ok (.getfield 140, 3) := by decide +kernel
theorem dX8_isHere_8 : decode cX8_isHere 8 = .ok (.if_icmp .ge 27, 3) := by decide +kernel
theorem dX8_isHere_11 : decode cX8_isHere 11 = .ok (.aload_n 0, 1) := by decide +kernel
theorem dX8_isHere_12 : decode cX8_isHere 12 = .ok (.getfield 55, 3) := by decide +kernel
theorem dX8_isHere_15 : decode cX8_isHere 15 = .ok (.aload_n 0, 1) := by decide +kernel
theorem dX8_isHere_16 : decode cX8_isHere 16 = .ok (.getfield 143, 3) := by decide +kernel
theorem dX8_isHere_19 : decode cX8_isHere 19 = .ok (.iaload, 1) := by decide +kernel
theorem dX8_isHere_20 : decode cX8_isHere 20 = .ok (.i2l, 1) := by decide +kernel
theorem dX8_isHere_21 : decode cX8_isHere 21 = .ok (.iload_n 1, 1) := by decide +kernel
theorem dX8_isHere_22 : decode cX8_isHere 22 = .ok (.i2l, 1) := by decide +kernel
theorem dX8_isHere_23 : decode cX8_isHere 23 = .ok (.iload_n 2, 1) := by decide +kernel
theorem dX8_isHere_24 : decode cX8_isHere 24 = .ok (.i2l, 1) := by decide +kernel
theorem dX8_isHere_25 : decode cX8_isHere 25 = .ok (.invokestatic 69, 3) := by decide +kernel
theorem dX8_isHere_28 : decode cX8_isHere 28 = .ok (.ifCond .eq 7, 3) := by decide +kernel
theorem dX8_isHere_31 : decode cX8_isHere 31 = .ok (.iconst 1, 1) := by decide +kernel
theorem dX8_isHere_32 : decode cX8_isHere 32 = .ok (.goto 4, 3) := by decide +kernel
theorem dX8_isHere_35 : decode cX8_isHere 35 = .ok (.iconst 0, 1) := by decide +kernel
theorem dX8_isHere_36 : decode cX8_isHere 36 = .ok (.ireturn, 1) := by decide +kernel
set_option maxRecDepth 20000 in
theorem ggX8_isHere_X8_in : GoodIn wsX8_isHere wsX8_in := goodIn_r _ [7] (by decide +kernel) (by decide +kernel)
set_option maxRecDepth 20000 in
theorem gX8_isHere_X8_in : GoodIn wsX8_isHere (va_wsS RX8 69 yX8_in wsX8_in) := goodIn_app (goodIn_of _ (by decide +kernel)) ggX8_isHere_X8_in
theorem iX8_isHere_8 : ∀ w ∈ u_ws RX8 TX8 25, w ∈ wsX8_isHere := fun w h => List.mem_cons_of_mem _ (List.mem_append_right _ (h))
set_option maxHeartbeats 4000000 in
set_option maxRecDepth 100000 in
theorem c_X8_isHere {E : EE} {l : Launch} {g : GG} {ad : Nat → Nat} (hg : gwf g) {o0 : Nat} {x1 : Int} {x2 : Int} {M : Mm} {Q : Int → Mm → Prop} (k_o0 : gk g o0 = 8) (h : p_X8_isHere g o0 x1 x2 M Q) : Ct E l yX8_isHere wsX8_isHere rmX8_isHere g ad [.ref (ad o0), cI x1, cI x2] M (QI E g ad Q) := by
  refine ent (cc := cX8_isHere) (maxL := 3) (ret := (some .boolean)) (own := RX8) (by decide +kernel) rfl rfl (Nat.le_of_ble_eq_true rfl) ?_
  intro p e s m below meth c ls X hr hlk K w hl
  have hl : lv_has ls 3 [(0, .ref (ad o0)), (1, cI x1), (2, cI x2)] := hl
  unfold p_X8_isHere at h
  refine lv_aload_n X.1 X.2.1 dX8_isHere_0 rfl (lv_at hl 0 rfl) ?_
  refine r_geti (N := 25) (T := TX8) (kz := 21) X K w iX8_isHere_8 k_o0 rfl (by decide) 21 (by decide) rfl rfl rfl (List.mem_of_getElem? (i := 1) rfl) dX8_isHere_1 ?_
  refine lv_aload_n X.1 X.2.1 dX8_isHere_4 rfl (lv_at hl 0 rfl) ?_
  refine r_geti (N := 25) (T := TX8) (kz := 20) X K w iX8_isHere_8 k_o0 rfl (by decide) 20 (by decide) rfl rfl rfl (List.mem_of_getElem? (i := 2) rfl) dX8_isHere_5 ?_
  obtain ⟨i0, i1, h1, h2⟩ := h
  refine r_icmp_ge (tgt := 35) X i0 i1 dX8_isHere_8 (by decide) (fun cc => ?_) (fun cc => ?_)
  · have h := h1 cc
    refine r_iconst X dX8_isHere_35 ?_
    exact r_zreturn X hr hlk K w (by decide +kernel) h dX8_isHere_36
  · have h := h2 cc
    refine lv_aload_n X.1 X.2.1 dX8_isHere_11 rfl (lv_at hl 0 rfl) ?_
    refine r_getr (N := 25) (T := TX8) X K w iX8_isHere_8 k_o0 rfl (by decide) 19 (by decide) rfl rfl (List.mem_of_getElem? (i := 3) rfl) dX8_isHere_12 ?_
    have k1 : gk g (o0 + 16) = 9 := gch hg k_o0 (by decide) 19 (by decide) rfl rfl
    refine lv_aload_n X.1 X.2.1 dX8_isHere_15 rfl (lv_at hl 0 rfl) ?_
    refine r_geti (N := 25) (T := TX8) (kz := 21) X K w iX8_isHere_8 k_o0 rfl (by decide) 21 (by decide) rfl rfl rfl (List.mem_of_getElem? (i := 1) rfl) dX8_isHere_16 ?_
    obtain ⟨b0, b1, h⟩ := h
    refine r_iald X K w hg k1 b0 b1 dX8_isHere_19 ?_
    obtain ⟨i0, h⟩ := h
    refine r_i2l X i0 dX8_isHere_20 ?_
    refine lv_iload_n X.1 X.2.1 dX8_isHere_21 rfl (lv_at hl 1 rfl) ?_
    obtain ⟨i0, h⟩ := h
    refine r_i2l X i0 dX8_isHere_22 ?_
    refine lv_iload_n X.1 X.2.1 dX8_isHere_23 rfl (lv_at hl 2 rfl) ?_
    obtain ⟨i0, h⟩ := h
    refine r_i2l X i0 dX8_isHere_24 ?_
    refine q_i (x_S (As := [cL (M (o0 + 16) (M o0 21)), cL x1, cL x2]) (rest := []) X K w (c_X8_in hg h) (va_cwS 3 X.2.2.2.2 gX8_isHere_X8_in rfl rfl rfl (by decide +kernel) ⟨Nat.le_of_ble_eq_true rfl, Nat.le_of_ble_eq_true rfl⟩) rfl hl rfl (Nat.le_of_ble_eq_true rfl) dX8_isHere_25 ⟨Nat.le_of_ble_eq_true rfl, Nat.le_of_ble_eq_true rfl⟩) w (fun r3 M2 H locs h w => ?_)
    obtain ⟨i0, h1, h2⟩ := h
    refine r_if_eq (tgt := 35) X i0 dX8_isHere_28 (by decide) (fun cc => ?_) (fun cc => ?_)
    · have h := h1 cc
      refine r_iconst X dX8_isHere_35 ?_
      exact r_zreturn X hr hlk K w (by decide +kernel) h dX8_isHere_36
    · have h := h2 cc
      refine r_iconst X dX8_isHere_31 ?_
      refine lv_goto (tgt := 36) X.1 X.2.1 dX8_isHere_32 (by decide) ?_
      exact r_zreturn X hr hlk K w (by decide +kernel) h dX8_isHere_36
theorem dX8_takes_0 : decode cX8_takes 0 = .ok (.aload_n 0, 1) := by decide +kernel
theorem dX8_takes_1 : decode cX8_takes 1 = .ok (.iload_n 1, 1) := by decide +kernel
theorem dX8_takes_2 : decode cX8_takes 2 = .ok (.iload_n 1, 1) := by decide +kernel
theorem dX8_takes_3 : decode cX8_takes 3 = .ok (.invokevirtual 146, 3) := by decide +kernel
theorem dX8_takes_6 : decode cX8_takes 6 = .ok (.istore_n 2, 1) := by decide +kernel
theorem dX8_takes_7 : decode cX8_takes 7 = .ok (.aload_n 0, 1) := by decide +kernel
theorem dX8_takes_8 : decode cX8_takes 8 = .ok (.dup, 1) := by decide +kernel
theorem dX8_takes_9 : decode cX8_takes 9 = .ok (.getfield 143, 3) := by decide +kernel
theorem dX8_takes_12 : decode cX8_takes 12 = .ok (.iload_n 2, 1) := by decide +kernel
theorem dX8_takes_13 : decode cX8_takes 13 = .ok (.ifCond .eq 7, 3) := by decide +kernel
theorem dX8_takes_16 : decode cX8_takes 16 = .ok (.iconst 1, 1) := by decide +kernel
theorem dX8_takes_17 : decode cX8_takes 17 = .ok (.goto 4, 3) := by decide +kernel
theorem dX8_takes_20 : decode cX8_takes 20 = .ok (.iconst 0, 1) := by decide +kernel
theorem dX8_takes_21 : decode cX8_takes 21 = .ok (.iadd, 1) := by decide +kernel
theorem dX8_takes_22 : decode cX8_takes 22 = .ok (.putfield 143, 3) := by decide +kernel
theorem dX8_takes_25 : decode cX8_takes 25 = .ok (.iload_n 2, 1) := by decide +kernel
theorem dX8_takes_26 : decode cX8_takes 26 = .ok (.ireturn, 1) := by decide +kernel
set_option maxRecDepth 20000 in
theorem ggX8_takes_X8_isHere : GoodIn wsX8_takes wsX8_isHere := goodIn_r _ [6, 1, 7, 8, 9, 10, 5, 11, 12, 13, 14, 15, 16, 17, 18, 19, 20, 21, 22, 23, 24, 25, 26, 27, 28, 29, 30, 31, 32, 33, 34, 35, 36] (by decide +kernel) (by decide +kernel)
set_option maxRecDepth 20000 in
theorem gX8_takes_X8_isHere : GoodIn wsX8_takes (wsV RX8 146 RX8 yX8_isHere wsX8_isHere) := goodIn_app (goodIn_of _ (by decide +kernel)) ggX8_takes_X8_isHere
theorem iX8_takes_8 : ∀ w ∈ u_ws RX8 TX8 25, w ∈ wsX8_takes := fun w h => List.mem_cons_of_mem _ (List.mem_append_right _ (h))
set_option maxHeartbeats 4000000 in
set_option maxRecDepth 100000 in
theorem c_X8_takes {E : EE} {l : Launch} {g : GG} {ad : Nat → Nat} (hg : gwf g) {o0 : Nat} {x1 : Int} {M : Mm} {Q : Int → Mm → Prop} (k_o0 : gk g o0 = 8) (h : p_X8_takes g o0 x1 M Q) : Ct E l yX8_takes wsX8_takes rmX8_takes g ad [.ref (ad o0), cI x1] M (QI E g ad Q) := by
  refine ent (cc := cX8_takes) (maxL := 3) (ret := (some .boolean)) (own := RX8) (by decide +kernel) rfl rfl (Nat.le_of_ble_eq_true rfl) ?_
  intro p e s m below meth c ls X hr hlk K w hl
  have hl : lv_has ls 3 [(0, .ref (ad o0)), (1, cI x1)] := hl
  unfold p_X8_takes at h
  refine lv_aload_n X.1 X.2.1 dX8_takes_0 rfl (lv_at hl 0 rfl) ?_
  refine lv_iload_n X.1 X.2.1 dX8_takes_1 rfl (lv_at hl 1 rfl) ?_
  refine lv_iload_n X.1 X.2.1 dX8_takes_2 rfl (lv_at hl 1 rfl) ?_
  refine q_i (x_V (As := [cI x1, cI x1]) (rest := []) X K w (c_X8_isHere hg k_o0 h) (cwV 2 X.2.2.2.2 gX8_takes_X8_isHere rfl rfl rfl (by decide +kernel) ⟨Nat.le_of_ble_eq_true rfl, Nat.le_of_ble_eq_true rfl⟩) k_o0 (by decide) rfl rfl hl rfl (Nat.le_of_ble_eq_true rfl) dX8_takes_3 ⟨Nat.le_of_ble_eq_true rfl, Nat.le_of_ble_eq_true rfl⟩) w (fun r2 M1 H locs h w => ?_)
  refine lv_istore_n (lv' := [(2, cI r2), (0, .ref (ad o0)), (1, cI x1)]) X.1 X.2.1 dX8_takes_6 rfl hl (by decide) rfl (fun ls hl => ?_)
  refine lv_aload_n X.1 X.2.1 dX8_takes_7 rfl (lv_at hl 1 rfl) ?_
  refine lv_dup X.1 X.2.1 dX8_takes_8 rfl ?_
  refine r_geti (N := 25) (T := TX8) (kz := 21) X K w iX8_takes_8 k_o0 rfl (by decide) 21 (by decide) rfl rfl rfl (List.mem_of_getElem? (i := 1) rfl) dX8_takes_9 ?_
  refine lv_iload_n X.1 X.2.1 dX8_takes_12 rfl (lv_at hl 0 rfl) ?_
  obtain ⟨i0, h1, h2⟩ := h
  refine r_if_eq (tgt := 20) X i0 dX8_takes_13 (by decide) (fun cc => ?_) (fun cc => ?_)
  · have h := h1 cc
    refine r_iconst X dX8_takes_20 ?_
    refine r_iadd X dX8_takes_21 ?_
    refine r_puti (N := 25) (T := TX8) (kz := 21) (ty := .int) X K w iX8_takes_8 tyX8 tyX8_ok nmX8 k_o0 rfl (by decide) 21 (by decide) rfl rfl rfl rfl (by decide +kernel) rfl rfl (List.mem_of_getElem? (i := 1) rfl) dX8_takes_22 (fun M3 H locs e w => ?_)
    replace h := h M3 e
    refine lv_iload_n X.1 X.2.1 dX8_takes_25 rfl (lv_at hl 0 rfl) ?_
    exact r_zreturn X hr hlk K w (nz h.1) h.2 dX8_takes_26
  · have h := h2 cc
    refine r_iconst X dX8_takes_16 ?_
    refine lv_goto (tgt := 21) X.1 X.2.1 dX8_takes_17 (by decide) ?_
    refine r_iadd X dX8_takes_21 ?_
    refine r_puti (N := 25) (T := TX8) (kz := 21) (ty := .int) X K w iX8_takes_8 tyX8 tyX8_ok nmX8 k_o0 rfl (by decide) 21 (by decide) rfl rfl rfl rfl (by decide +kernel) rfl rfl (List.mem_of_getElem? (i := 1) rfl) dX8_takes_22 (fun M4 H locs e w => ?_)
    replace h := h M4 e
    refine lv_iload_n X.1 X.2.1 dX8_takes_25 rfl (lv_at hl 0 rfl) ?_
    exact r_zreturn X hr hlk K w (nz h.1) h.2 dX8_takes_26
theorem dX8_readsNumber_0 : decode cX8_readsNumber 0 = .ok (.aload_n 0, 1) := by decide +kernel
theorem dX8_readsNumber_1 : decode cX8_readsNumber 1 = .ok (.bipush 48, 2) := by decide +kernel
theorem dX8_readsNumber_3 : decode cX8_readsNumber 3 = .ok (.iload_n 1, 1) := by decide +kernel
theorem dX8_readsNumber_4 : decode cX8_readsNumber 4 = .ok (.iadd, 1) := by decide +kernel
theorem dX8_readsNumber_5 : decode cX8_readsNumber 5 = .ok (.bipush 57, 2) := by decide +kernel
theorem dX8_readsNumber_7 : decode cX8_readsNumber 7 = .ok (.invokevirtual 146, 3) := by decide +kernel
theorem dX8_readsNumber_10 : decode cX8_readsNumber 10 = .ok (.ifCond .eq 19, 3) := by decide +kernel
theorem dX8_readsNumber_13 : decode cX8_readsNumber 13 = .ok (.aload_n 0, 1) := by decide +kernel
theorem dX8_readsNumber_14 : decode cX8_readsNumber 14 = .ok (.getfield 55, 3) := by decide +kernel
theorem dX8_readsNumber_17 : decode cX8_readsNumber 17 = .ok (.aload_n 0, 1) := by decide +kernel
theorem dX8_readsNumber_18 : decode cX8_readsNumber 18 = .ok (.getfield 143, 3) := by decide +kernel
theorem dX8_readsNumber_21 : decode cX8_readsNumber 21 = .ok (.iaload, 1) := by decide +kernel
theorem dX8_readsNumber_22 : decode cX8_readsNumber 22 = .ok (.bipush 48, 2) := by decide +kernel
theorem dX8_readsNumber_24 : decode cX8_readsNumber 24 = .ok (.isub, 1) := by decide +kernel
theorem dX8_readsNumber_25 : decode cX8_readsNumber 25 = .ok (.iload_n 2, 1) := by decide +kernel
theorem dX8_readsNumber_26 : decode cX8_readsNumber 26 = .ok (.if_icmp .le 5, 3) := by decide +kernel
theorem dX8_readsNumber_29 : decode cX8_readsNumber 29 = .ok (.iconst 0, 1) := by decide +kernel
theorem dX8_readsNumber_30 : decode cX8_readsNumber 30 = .ok (.ireturn, 1) := by decide +kernel
theorem dX8_readsNumber_31 : decode cX8_readsNumber 31 = .ok (.aload_n 0, 1) := by decide +kernel
theorem dX8_readsNumber_32 : decode cX8_readsNumber 32 = .ok (.aload_n 0, 1) := by decide +kernel
theorem dX8_readsNumber_33 : decode cX8_readsNumber 33 = .ok (.getfield 55, 3) := by decide +kernel
theorem dX8_readsNumber_36 : decode cX8_readsNumber 36 = .ok (.aload_n 0, 1) := by decide +kernel
theorem dX8_readsNumber_37 : decode cX8_readsNumber 37 = .ok (.getfield 143, 3) := by decide +kernel
theorem dX8_readsNumber_40 : decode cX8_readsNumber 40 = .ok (.iaload, 1) := by decide +kernel
theorem dX8_readsNumber_41 : decode cX8_readsNumber 41 = .ok (.bipush 48, 2) := by decide +kernel
theorem dX8_readsNumber_43 : decode cX8_readsNumber 43 = .ok (.isub, 1) := by decide +kernel
theorem dX8_readsNumber_44 : decode cX8_readsNumber 44 = .ok (.putfield 149, 3) := by decide +kernel
theorem dX8_readsNumber_47 : decode cX8_readsNumber 47 = .ok (.aload_n 0, 1) := by decide +kernel
theorem dX8_readsNumber_48 : decode cX8_readsNumber 48 = .ok (.dup, 1) := by decide +kernel
theorem dX8_readsNumber_49 : decode cX8_readsNumber 49 = .ok (.getfield 143, 3) := by decide +kernel
theorem dX8_readsNumber_52 : decode cX8_readsNumber 52 = .ok (.iconst 1, 1) := by decide +kernel
theorem dX8_readsNumber_53 : decode cX8_readsNumber 53 = .ok (.iadd, 1) := by decide +kernel
theorem dX8_readsNumber_54 : decode cX8_readsNumber 54 = .ok (.putfield 143, 3) := by decide +kernel
theorem dX8_readsNumber_57 : decode cX8_readsNumber 57 = .ok (.aload_n 0, 1) := by decide +kernel
theorem dX8_readsNumber_58 : decode cX8_readsNumber 58 = .ok (.getfield 149, 3) := by decide +kernel
theorem dX8_readsNumber_61 : decode cX8_readsNumber 61 = .ok (.ifCond .le 75, 3) := by decide +kernel
theorem dX8_readsNumber_64 : decode cX8_readsNumber 64 = .ok (.aload_n 0, 1) := by decide +kernel
theorem dX8_readsNumber_65 : decode cX8_readsNumber 65 = .ok (.bipush 48, 2) := by decide +kernel
theorem dX8_readsNumber_67 : decode cX8_readsNumber 67 = .ok (.bipush 57, 2) := by decide +kernel
theorem dX8_readsNumber_69 : decode cX8_readsNumber 69 = .ok (.invokevirtual 146, 3) := by decide +kernel
theorem dX8_readsNumber_72 : decode cX8_readsNumber 72 = .ok (.ifCond .eq 64, 3) := by decide +kernel
theorem dX8_readsNumber_75 : decode cX8_readsNumber 75 = .ok (.bipush 10, 2) := by decide +kernel
theorem dX8_readsNumber_77 : decode cX8_readsNumber 77 = .ok (.aload_n 0, 1) := by decide +kernel
theorem dX8_readsNumber_78 : decode cX8_readsNumber 78 = .ok (.getfield 149, 3) := by decide +kernel
theorem dX8_readsNumber_81 : decode cX8_readsNumber 81 = .ok (.imul, 1) := by decide +kernel
theorem dX8_readsNumber_82 : decode cX8_readsNumber 82 = .ok (.aload_n 0, 1) := by decide +kernel
theorem dX8_readsNumber_83 : decode cX8_readsNumber 83 = .ok (.getfield 55, 3) := by decide +kernel
theorem dX8_readsNumber_86 : decode cX8_readsNumber 86 = .ok (.aload_n 0, 1) := by decide +kernel
theorem dX8_readsNumber_87 : decode cX8_readsNumber 87 = .ok (.getfield 143, 3) := by decide +kernel
theorem dX8_readsNumber_90 : decode cX8_readsNumber 90 = .ok (.iaload, 1) := by decide +kernel
theorem dX8_readsNumber_91 : decode cX8_readsNumber 91 = .ok (.iadd, 1) := by decide +kernel
theorem dX8_readsNumber_92 : decode cX8_readsNumber 92 = .ok (.bipush 48, 2) := by decide +kernel
theorem dX8_readsNumber_94 : decode cX8_readsNumber 94 = .ok (.isub, 1) := by decide +kernel
theorem dX8_readsNumber_95 : decode cX8_readsNumber 95 = .ok (.iload_n 2, 1) := by decide +kernel
theorem dX8_readsNumber_96 : decode cX8_readsNumber 96 = .ok (.if_icmp .gt 40, 3) := by decide +kernel
theorem dX8_readsNumber_99 : decode cX8_readsNumber 99 = .ok (.aload_n 0, 1) := by decide +kernel
theorem dX8_readsNumber_100 : decode cX8_readsNumber 100 = .ok (.bipush 10, 2) := by decide +kernel
theorem dX8_readsNumber_102 : decode cX8_readsNumber 102 = .ok (.aload_n 0, 1) := by decide +kernel
theorem dX8_readsNumber_103 : decode cX8_readsNumber 103 = .ok (.getfield 149, 3) := by decide +kernel
theorem dX8_readsNumber_106 : decode cX8_readsNumber 106 = .ok (.imul, 1) := by decide +kernel
theorem dX8_readsNumber_107 : decode cX8_readsNumber 107 = .ok (.aload_n 0, 1) := by decide +kernel
theorem dX8_readsNumber_108 : decode cX8_readsNumber 108 = .ok (.getfield 55, 3) := by decide +kernel
theorem dX8_readsNumber_111 : decode cX8_readsNumber 111 = .ok (.aload_n 0, 1) := by decide +kernel
theorem dX8_readsNumber_112 : decode cX8_readsNumber 112 = .ok (.getfield 143, 3) := by decide +kernel
theorem dX8_readsNumber_115 : decode cX8_readsNumber 115 = .ok (.iaload, 1) := by decide +kernel
theorem dX8_readsNumber_116 : decode cX8_readsNumber 116 = .ok (.iadd, 1) := by decide +kernel
theorem dX8_readsNumber_117 : decode cX8_readsNumber 117 = .ok (.bipush 48, 2) := by decide +kernel
theorem dX8_readsNumber_119 : decode cX8_readsNumber 119 = .ok (.isub, 1) := by decide +kernel
theorem dX8_readsNumber_120 : decode cX8_readsNumber 120 = .ok (.putfield 149, 3) := by decide +kernel
theorem dX8_readsNumber_123 : decode cX8_readsNumber 123 = .ok (.aload_n 0, 1) := by decide +kernel
theorem dX8_readsNumber_124 : decode cX8_readsNumber 124 = .ok (.dup, 1) := by decide +kernel
theorem dX8_readsNumber_125 : decode cX8_readsNumber 125 = .ok (.getfield 143, 3) := by decide +kernel
theorem dX8_readsNumber_128 : decode cX8_readsNumber 128 = .ok (.iconst 1, 1) := by decide +kernel
theorem dX8_readsNumber_129 : decode cX8_readsNumber 129 = .ok (.iadd, 1) := by decide +kernel
theorem dX8_readsNumber_130 : decode cX8_readsNumber 130 = .ok (.putfield 143, 3) := by decide +kernel
theorem dX8_readsNumber_133 : decode cX8_readsNumber 133 = .ok (.goto (-76), 3) := by decide +kernel
theorem dX8_readsNumber_136 : decode cX8_readsNumber 136 = .ok (.iconst 1, 1) := by decide +kernel
theorem dX8_readsNumber_137 : decode cX8_readsNumber 137 = .ok (.ireturn, 1) := by decide +kernel
set_option maxRecDepth 20000 in
theorem ggX8_readsNumber_X8_isHere : GoodIn wsX8_readsNumber wsX8_isHere := goodIn_r _ [8, 2, 9, 1, 10, 11, 7, 12, 13, 14, 15, 16, 17, 18, 19, 20, 21, 22, 23, 24, 25, 26, 27, 28, 29, 30, 31, 32, 33, 34, 35, 36, 37] (by decide +kernel) (by decide +kernel)
set_option maxRecDepth 20000 in
theorem gX8_readsNumber_X8_isHere : GoodIn wsX8_readsNumber (wsV RX8 146 RX8 yX8_isHere wsX8_isHere) := goodIn_app (goodIn_of _ (by decide +kernel)) ggX8_readsNumber_X8_isHere
theorem iX8_readsNumber_8 : ∀ w ∈ u_ws RX8 TX8 25, w ∈ wsX8_readsNumber := fun w h => List.mem_cons_of_mem _ (List.mem_append_right _ (h))
set_option maxHeartbeats 4000000 in
set_option maxRecDepth 100000 in
theorem w_X8_readsNumber_L57 {p : Program} {l : Launch} {e : Env} {s : State} {m : MethodId} {args : Array Value} {below : List Frame} {meth : Method} {c : Code} {E : EE} {g : GG} {ad : Nat → Nat} (hg : gwf g) (X : CallFix p m c cX8_readsNumber 3 s args wsX8_readsNumber RX8) (K : Kn E s) (hr : meth.sig.returnType = (some .boolean)) (hlk : meth.locks = false) {Q : Int → Mm → Prop} : ∀ (n : Nat) (o0 : Nat) (x2 : Int) (M : Mm) (H : Heap) (locs : List Loc) (ls : Array Slot), gk g o0 = 8 → Rw E g ad M s.heap H locs → lv_has ls 3 [(0, .ref (ad o0)), (2, cI x2)] → p_X8_readsNumber_L57 g n o0 x2 M Q → W p l e rmX8_readsNumber s m args below meth c H locs 0 0 (MQ below (QI E g ad Q) args s 0 0 (Rg g ad)) (F0 m 57 ls []) := by
  intro n
  induction n with
  | zero =>
    intro o0 x2 M H locs ls k_o0 w hl h
    exact absurd h (by unfold p_X8_readsNumber_L57; exact id)
  | succ n ih =>
    intro o0 x2 M H locs ls k_o0 w hl h
    unfold p_X8_readsNumber_L57 at h
    refine lv_aload_n X.1 X.2.1 dX8_readsNumber_57 rfl (lv_at hl 0 rfl) ?_
    refine r_geti (N := 25) (T := TX8) (kz := 22) X K w iX8_readsNumber_8 k_o0 rfl (by decide) 22 (by decide) rfl rfl rfl (List.mem_of_getElem? (i := 3) rfl) dX8_readsNumber_58 ?_
    obtain ⟨i0, h1, h2⟩ := h
    refine r_if_le (tgt := 136) X i0 dX8_readsNumber_61 (by decide) (fun cc => ?_) (fun cc => ?_)
    · have h := h1 cc
      refine r_iconst X dX8_readsNumber_136 ?_
      exact r_zreturn X hr hlk K w (by decide +kernel) h dX8_readsNumber_137
    · have h := h2 cc
      refine lv_aload_n X.1 X.2.1 dX8_readsNumber_64 rfl (lv_at hl 0 rfl) ?_
      refine r_bipush X dX8_readsNumber_65 (by decide +kernel) ?_
      refine r_bipush X dX8_readsNumber_67 (by decide +kernel) ?_
      refine q_i (x_V (As := [cI 48, cI 57]) (rest := []) X K w (c_X8_isHere hg k_o0 h) (cwV 2 X.2.2.2.2 gX8_readsNumber_X8_isHere rfl rfl rfl (by decide +kernel) ⟨Nat.le_of_ble_eq_true rfl, Nat.le_of_ble_eq_true rfl⟩) k_o0 (by decide) rfl rfl hl rfl (Nat.le_of_ble_eq_true rfl) dX8_readsNumber_69 ⟨Nat.le_of_ble_eq_true rfl, Nat.le_of_ble_eq_true rfl⟩) w (fun r8 M7 H locs h w => ?_)
      obtain ⟨i0, h1, h2⟩ := h
      refine r_if_eq (tgt := 136) X i0 dX8_readsNumber_72 (by decide) (fun cc => ?_) (fun cc => ?_)
      · have h := h1 cc
        refine r_iconst X dX8_readsNumber_136 ?_
        exact r_zreturn X hr hlk K w (by decide +kernel) h dX8_readsNumber_137
      · have h := h2 cc
        refine r_bipush X dX8_readsNumber_75 (by decide +kernel) ?_
        refine lv_aload_n X.1 X.2.1 dX8_readsNumber_77 rfl (lv_at hl 0 rfl) ?_
        refine r_geti (N := 25) (T := TX8) (kz := 22) X K w iX8_readsNumber_8 k_o0 rfl (by decide) 22 (by decide) rfl rfl rfl (List.mem_of_getElem? (i := 3) rfl) dX8_readsNumber_78 ?_
        refine r_imul X dX8_readsNumber_81 ?_
        refine lv_aload_n X.1 X.2.1 dX8_readsNumber_82 rfl (lv_at hl 0 rfl) ?_
        refine r_getr (N := 25) (T := TX8) X K w iX8_readsNumber_8 k_o0 rfl (by decide) 19 (by decide) rfl rfl (List.mem_of_getElem? (i := 1) rfl) dX8_readsNumber_83 ?_
        have k9 : gk g (o0 + 16) = 9 := gch hg k_o0 (by decide) 19 (by decide) rfl rfl
        refine lv_aload_n X.1 X.2.1 dX8_readsNumber_86 rfl (lv_at hl 0 rfl) ?_
        refine r_geti (N := 25) (T := TX8) (kz := 21) X K w iX8_readsNumber_8 k_o0 rfl (by decide) 21 (by decide) rfl rfl rfl (List.mem_of_getElem? (i := 2) rfl) dX8_readsNumber_87 ?_
        obtain ⟨b0, b1, h⟩ := h
        refine r_iald X K w hg k9 b0 b1 dX8_readsNumber_90 ?_
        refine r_iadd X dX8_readsNumber_91 ?_
        refine r_bipush X dX8_readsNumber_92 (by decide +kernel) ?_
        refine r_isub X dX8_readsNumber_94 ?_
        refine lv_iload_n X.1 X.2.1 dX8_readsNumber_95 rfl (lv_at hl 1 rfl) ?_
        obtain ⟨i0, i1, h1, h2⟩ := h
        refine r_icmp_gt (tgt := 136) X i0 i1 dX8_readsNumber_96 (by decide) (fun cc => ?_) (fun cc => ?_)
        · have h := h1 cc
          refine r_iconst X dX8_readsNumber_136 ?_
          exact r_zreturn X hr hlk K w (by decide +kernel) h dX8_readsNumber_137
        · have h := h2 cc
          refine lv_aload_n X.1 X.2.1 dX8_readsNumber_99 rfl (lv_at hl 0 rfl) ?_
          refine r_bipush X dX8_readsNumber_100 (by decide +kernel) ?_
          refine lv_aload_n X.1 X.2.1 dX8_readsNumber_102 rfl (lv_at hl 0 rfl) ?_
          refine r_geti (N := 25) (T := TX8) (kz := 22) X K w iX8_readsNumber_8 k_o0 rfl (by decide) 22 (by decide) rfl rfl rfl (List.mem_of_getElem? (i := 3) rfl) dX8_readsNumber_103 ?_
          refine r_imul X dX8_readsNumber_106 ?_
          refine lv_aload_n X.1 X.2.1 dX8_readsNumber_107 rfl (lv_at hl 0 rfl) ?_
          refine r_getr (N := 25) (T := TX8) X K w iX8_readsNumber_8 k_o0 rfl (by decide) 19 (by decide) rfl rfl (List.mem_of_getElem? (i := 1) rfl) dX8_readsNumber_108 ?_
          have k10 : gk g (o0 + 16) = 9 := gch hg k_o0 (by decide) 19 (by decide) rfl rfl
          refine lv_aload_n X.1 X.2.1 dX8_readsNumber_111 rfl (lv_at hl 0 rfl) ?_
          refine r_geti (N := 25) (T := TX8) (kz := 21) X K w iX8_readsNumber_8 k_o0 rfl (by decide) 21 (by decide) rfl rfl rfl (List.mem_of_getElem? (i := 2) rfl) dX8_readsNumber_112 ?_
          obtain ⟨b0, b1, h⟩ := h
          refine r_iald X K w hg k10 b0 b1 dX8_readsNumber_115 ?_
          refine r_iadd X dX8_readsNumber_116 ?_
          refine r_bipush X dX8_readsNumber_117 (by decide +kernel) ?_
          refine r_isub X dX8_readsNumber_119 ?_
          refine r_puti (N := 25) (T := TX8) (kz := 22) (ty := .int) X K w iX8_readsNumber_8 tyX8 tyX8_ok nmX8 k_o0 rfl (by decide) 22 (by decide) rfl rfl rfl rfl (by decide +kernel) rfl rfl (List.mem_of_getElem? (i := 3) rfl) dX8_readsNumber_120 (fun M11 H locs e w => ?_)
          replace h := h M11 e
          refine lv_aload_n X.1 X.2.1 dX8_readsNumber_123 rfl (lv_at hl 0 rfl) ?_
          refine lv_dup X.1 X.2.1 dX8_readsNumber_124 rfl ?_
          refine r_geti (N := 25) (T := TX8) (kz := 21) X K w iX8_readsNumber_8 k_o0 rfl (by decide) 21 (by decide) rfl rfl rfl (List.mem_of_getElem? (i := 2) rfl) dX8_readsNumber_125 ?_
          refine r_iconst X dX8_readsNumber_128 ?_
          refine r_iadd X dX8_readsNumber_129 ?_
          refine r_puti (N := 25) (T := TX8) (kz := 21) (ty := .int) X K w iX8_readsNumber_8 tyX8 tyX8_ok nmX8 k_o0 rfl (by decide) 21 (by decide) rfl rfl rfl rfl (by decide +kernel) rfl rfl (List.mem_of_getElem? (i := 2) rfl) dX8_readsNumber_130 (fun M12 H locs e w => ?_)
          replace h := h M12 e
          refine lv_goto (tgt := 57) X.1 X.2.1 dX8_readsNumber_133 (by decide) ?_
          exact ih o0 x2 M12 _ _ _ k_o0 w (lv_sub hl [0, 1] rfl) h
set_option maxHeartbeats 4000000 in
set_option maxRecDepth 100000 in
theorem c_X8_readsNumber {E : EE} {l : Launch} {g : GG} {ad : Nat → Nat} (hg : gwf g) {o0 : Nat} {x1 : Int} {x2 : Int} {M : Mm} {Q : Int → Mm → Prop} (k_o0 : gk g o0 = 8) (h : p_X8_readsNumber g o0 x1 x2 M Q) : Ct E l yX8_readsNumber wsX8_readsNumber rmX8_readsNumber g ad [.ref (ad o0), cI x1, cI x2] M (QI E g ad Q) := by
  refine ent (cc := cX8_readsNumber) (maxL := 3) (ret := (some .boolean)) (own := RX8) (by decide +kernel) rfl rfl (Nat.le_of_ble_eq_true rfl) ?_
  intro p e s m below meth c ls X hr hlk K w hl
  have hl : lv_has ls 3 [(0, .ref (ad o0)), (1, cI x1), (2, cI x2)] := hl
  unfold p_X8_readsNumber at h
  refine lv_aload_n X.1 X.2.1 dX8_readsNumber_0 rfl (lv_at hl 0 rfl) ?_
  refine r_bipush X dX8_readsNumber_1 (by decide +kernel) ?_
  refine lv_iload_n X.1 X.2.1 dX8_readsNumber_3 rfl (lv_at hl 1 rfl) ?_
  refine r_iadd X dX8_readsNumber_4 ?_
  refine r_bipush X dX8_readsNumber_5 (by decide +kernel) ?_
  refine q_i (x_V (As := [cI (48 + x1), cI 57]) (rest := []) X K w (c_X8_isHere hg k_o0 h) (cwV 2 X.2.2.2.2 gX8_readsNumber_X8_isHere rfl rfl rfl (by decide +kernel) ⟨Nat.le_of_ble_eq_true rfl, Nat.le_of_ble_eq_true rfl⟩) k_o0 (by decide) rfl rfl hl rfl (Nat.le_of_ble_eq_true rfl) dX8_readsNumber_7 ⟨Nat.le_of_ble_eq_true rfl, Nat.le_of_ble_eq_true rfl⟩) w (fun r2 M1 H locs h w => ?_)
  obtain ⟨i0, h1, h2⟩ := h
  refine r_if_eq (tgt := 29) X i0 dX8_readsNumber_10 (by decide) (fun cc => ?_) (fun cc => ?_)
  · have h := h1 cc
    refine r_iconst X dX8_readsNumber_29 ?_
    exact r_zreturn X hr hlk K w (by decide +kernel) h dX8_readsNumber_30
  · have h := h2 cc
    refine lv_aload_n X.1 X.2.1 dX8_readsNumber_13 rfl (lv_at hl 0 rfl) ?_
    refine r_getr (N := 25) (T := TX8) X K w iX8_readsNumber_8 k_o0 rfl (by decide) 19 (by decide) rfl rfl (List.mem_of_getElem? (i := 1) rfl) dX8_readsNumber_14 ?_
    have k3 : gk g (o0 + 16) = 9 := gch hg k_o0 (by decide) 19 (by decide) rfl rfl
    refine lv_aload_n X.1 X.2.1 dX8_readsNumber_17 rfl (lv_at hl 0 rfl) ?_
    refine r_geti (N := 25) (T := TX8) (kz := 21) X K w iX8_readsNumber_8 k_o0 rfl (by decide) 21 (by decide) rfl rfl rfl (List.mem_of_getElem? (i := 2) rfl) dX8_readsNumber_18 ?_
    obtain ⟨b0, b1, h⟩ := h
    refine r_iald X K w hg k3 b0 b1 dX8_readsNumber_21 ?_
    refine r_bipush X dX8_readsNumber_22 (by decide +kernel) ?_
    refine r_isub X dX8_readsNumber_24 ?_
    refine lv_iload_n X.1 X.2.1 dX8_readsNumber_25 rfl (lv_at hl 2 rfl) ?_
    obtain ⟨i0, i1, h1, h2⟩ := h
    refine r_icmp_le (tgt := 31) X i0 i1 dX8_readsNumber_26 (by decide) (fun cc => ?_) (fun cc => ?_)
    · have h := h1 cc
      refine lv_aload_n X.1 X.2.1 dX8_readsNumber_31 rfl (lv_at hl 0 rfl) ?_
      refine lv_aload_n X.1 X.2.1 dX8_readsNumber_32 rfl (lv_at hl 0 rfl) ?_
      refine r_getr (N := 25) (T := TX8) X K w iX8_readsNumber_8 k_o0 rfl (by decide) 19 (by decide) rfl rfl (List.mem_of_getElem? (i := 1) rfl) dX8_readsNumber_33 ?_
      have k4 : gk g (o0 + 16) = 9 := gch hg k_o0 (by decide) 19 (by decide) rfl rfl
      refine lv_aload_n X.1 X.2.1 dX8_readsNumber_36 rfl (lv_at hl 0 rfl) ?_
      refine r_geti (N := 25) (T := TX8) (kz := 21) X K w iX8_readsNumber_8 k_o0 rfl (by decide) 21 (by decide) rfl rfl rfl (List.mem_of_getElem? (i := 2) rfl) dX8_readsNumber_37 ?_
      obtain ⟨b0, b1, h⟩ := h
      refine r_iald X K w hg k4 b0 b1 dX8_readsNumber_40 ?_
      refine r_bipush X dX8_readsNumber_41 (by decide +kernel) ?_
      refine r_isub X dX8_readsNumber_43 ?_
      refine r_puti (N := 25) (T := TX8) (kz := 22) (ty := .int) X K w iX8_readsNumber_8 tyX8 tyX8_ok nmX8 k_o0 rfl (by decide) 22 (by decide) rfl rfl rfl rfl (by decide +kernel) rfl rfl (List.mem_of_getElem? (i := 3) rfl) dX8_readsNumber_44 (fun M5 H locs e w => ?_)
      replace h := h M5 e
      refine lv_aload_n X.1 X.2.1 dX8_readsNumber_47 rfl (lv_at hl 0 rfl) ?_
      refine lv_dup X.1 X.2.1 dX8_readsNumber_48 rfl ?_
      refine r_geti (N := 25) (T := TX8) (kz := 21) X K w iX8_readsNumber_8 k_o0 rfl (by decide) 21 (by decide) rfl rfl rfl (List.mem_of_getElem? (i := 2) rfl) dX8_readsNumber_49 ?_
      refine r_iconst X dX8_readsNumber_52 ?_
      refine r_iadd X dX8_readsNumber_53 ?_
      refine r_puti (N := 25) (T := TX8) (kz := 21) (ty := .int) X K w iX8_readsNumber_8 tyX8 tyX8_ok nmX8 k_o0 rfl (by decide) 21 (by decide) rfl rfl rfl rfl (by decide +kernel) rfl rfl (List.mem_of_getElem? (i := 2) rfl) dX8_readsNumber_54 (fun M6 H locs e w => ?_)
      replace h := h M6 e
      obtain ⟨n13, h⟩ := h
      exact w_X8_readsNumber_L57 hg X K hr hlk n13 o0 x2 M6 _ _ _ k_o0 w (lv_sub hl [0, 2] rfl) h
    · have h := h2 cc
      refine r_iconst X dX8_readsNumber_29 ?_
      exact r_zreturn X hr hlk K w (by decide +kernel) h dX8_readsNumber_30
theorem dX8_readsCue_0 : decode cX8_readsCue 0 = .ok (.iconst 4, 1) := by decide +kernel
theorem dX8_readsCue_1 : decode cX8_readsCue 1 = .ok (.aload_n 0, 1) := by decide +kernel
theorem dX8_readsCue_2 : decode cX8_readsCue 2 = .ok (.getfield 152, 3) := by decide +kernel
theorem dX8_readsCue_5 : decode cX8_readsCue 5 = .ok (.imul, 1) := by decide +kernel
theorem dX8_readsCue_6 : decode cX8_readsCue 6 = .ok (.istore_n 1, 1) := by decide +kernel
theorem dX8_readsCue_7 : decode cX8_readsCue 7 = .ok (.aload_n 0, 1) := by decide +kernel
theorem dX8_readsCue_8 : decode cX8_readsCue 8 = .ok (.iconst 0, 1) := by decide +kernel
theorem dX8_readsCue_9 : decode cX8_readsCue 9 = .ok (.iconst 5, 1) := by decide +kernel
theorem dX8_readsCue_10 : decode cX8_readsCue 10 = .ok (.invokevirtual 155, 3) := by decide +kernel
theorem dX8_readsCue_13 : decode cX8_readsCue 13 = .ok (.ifCond .ne 5, 3) := by decide +kernel
theorem dX8_readsCue_16 : decode cX8_readsCue 16 = .ok (.iconst 0, 1) := by decide +kernel
theorem dX8_readsCue_17 : decode cX8_readsCue 17 = .ok (.ireturn, 1) := by decide +kernel
theorem dX8_readsCue_18 : decode cX8_readsCue 18 = .ok (.aload_n 0, 1) := by decide +kernel
theorem dX8_readsCue_19 : decode cX8_readsCue 19 = .ok (.getfield 58, 3) := by decide +kernel
theorem dX8_readsCue_22 : decode cX8_readsCue 22 = .ok (.iload_n 1, 1) := by decide +kernel
theorem dX8_readsCue_23 : decode cX8_readsCue 23 = .ok (.iconst 0, 1) := by decide +kernel
theorem dX8_readsCue_24 : decode cX8_readsCue 24 = .ok (.iadd, 1) := by decide +kernel
theorem dX8_readsCue_25 : decode cX8_readsCue 25 = .ok (.aload_n 0, 1) := by decide +kernel
theorem dX8_readsCue_26 : decode cX8_readsCue 26 = .ok (.getfield 149, 3) := by decide +kernel
theorem dX8_readsCue_29 : decode cX8_readsCue 29 = .ok (.iastore, 1) := by decide +kernel
theorem dX8_readsCue_30 : decode cX8_readsCue 30 = .ok (.aload_n 0, 1) := by decide +kernel
theorem dX8_readsCue_31 : decode cX8_readsCue 31 = .ok (.bipush 64, 2) := by decide +kernel
theorem dX8_readsCue_33 : decode cX8_readsCue 33 = .ok (.invokevirtual 158, 3) := by decide +kernel
theorem dX8_readsCue_36 : decode cX8_readsCue 36 = .ok (.ifCond .eq 14, 3) := by decide +kernel
theorem dX8_readsCue_39 : decode cX8_readsCue 39 = .ok (.aload_n 0, 1) := by decide +kernel
theorem dX8_readsCue_40 : decode cX8_readsCue 40 = .ok (.iconst 0, 1) := by decide +kernel
theorem dX8_readsCue_41 : decode cX8_readsCue 41 = .ok (.sipush 999, 3) := by decide +kernel
theorem dX8_readsCue_44 : decode cX8_readsCue 44 = .ok (.invokevirtual 155, 3) := by decide +kernel
theorem dX8_readsCue_47 : decode cX8_readsCue 47 = .ok (.ifCond .ne 5, 3) := by decide +kernel
theorem dX8_readsCue_50 : decode cX8_readsCue 50 = .ok (.iconst 0, 1) := by decide +kernel
theorem dX8_readsCue_51 : decode cX8_readsCue 51 = .ok (.ireturn, 1) := by decide +kernel
theorem dX8_readsCue_52 : decode cX8_readsCue 52 = .ok (.aload_n 0, 1) := by decide +kernel
theorem dX8_readsCue_53 : decode cX8_readsCue 53 = .ok (.getfield 58, 3) := by decide +kernel
theorem dX8_readsCue_56 : decode cX8_readsCue 56 = .ok (.iload_n 1, 1) := by decide +kernel
theorem dX8_readsCue_57 : decode cX8_readsCue 57 = .ok (.iconst 1, 1) := by decide +kernel
theorem dX8_readsCue_58 : decode cX8_readsCue 58 = .ok (.iadd, 1) := by decide +kernel
theorem dX8_readsCue_59 : decode cX8_readsCue 59 = .ok (.aload_n 0, 1) := by decide +kernel
theorem dX8_readsCue_60 : decode cX8_readsCue 60 = .ok (.getfield 149, 3) := by decide +kernel
theorem dX8_readsCue_63 : decode cX8_readsCue 63 = .ok (.iastore, 1) := by decide +kernel
theorem dX8_readsCue_64 : decode cX8_readsCue 64 = .ok (.aload_n 0, 1) := by decide +kernel
theorem dX8_readsCue_65 : decode cX8_readsCue 65 = .ok (.bipush 115, 2) := by decide +kernel
theorem dX8_readsCue_67 : decode cX8_readsCue 67 = .ok (.invokevirtual 158, 3) := by decide +kernel
theorem dX8_readsCue_70 : decode cX8_readsCue 70 = .ok (.ifCond .eq 13, 3) := by decide +kernel
theorem dX8_readsCue_73 : decode cX8_readsCue 73 = .ok (.aload_n 0, 1) := by decide +kernel
theorem dX8_readsCue_74 : decode cX8_readsCue 74 = .ok (.iconst 0, 1) := by decide +kernel
theorem dX8_readsCue_75 : decode cX8_readsCue 75 = .ok (.bipush 9, 2) := by decide +kernel
theorem dX8_readsCue_77 : decode cX8_readsCue 77 = .ok (.invokevirtual 155, 3) := by decide +kernel
theorem dX8_readsCue_80 : decode cX8_readsCue 80 = .ok (.ifCond .ne 5, 3) := by decide +kernel
theorem dX8_readsCue_83 : decode cX8_readsCue 83 = .ok (.iconst 0, 1) := by decide +kernel
theorem dX8_readsCue_84 : decode cX8_readsCue 84 = .ok (.ireturn, 1) := by decide +kernel
theorem dX8_readsCue_85 : decode cX8_readsCue 85 = .ok (.aload_n 0, 1) := by decide +kernel
theorem dX8_readsCue_86 : decode cX8_readsCue 86 = .ok (.getfield 58, 3) := by decide +kernel
theorem dX8_readsCue_89 : decode cX8_readsCue 89 = .ok (.iload_n 1, 1) := by decide +kernel
theorem dX8_readsCue_90 : decode cX8_readsCue 90 = .ok (.iconst 2, 1) := by decide +kernel
theorem dX8_readsCue_91 : decode cX8_readsCue 91 = .ok (.iadd, 1) := by decide +kernel
theorem dX8_readsCue_92 : decode cX8_readsCue 92 = .ok (.aload_n 0, 1) := by decide +kernel
theorem dX8_readsCue_93 : decode cX8_readsCue 93 = .ok (.getfield 149, 3) := by decide +kernel
theorem dX8_readsCue_96 : decode cX8_readsCue 96 = .ok (.iastore, 1) := by decide +kernel
theorem dX8_readsCue_97 : decode cX8_readsCue 97 = .ok (.aload_n 0, 1) := by decide +kernel
theorem dX8_readsCue_98 : decode cX8_readsCue 98 = .ok (.iconst 1, 1) := by decide +kernel
theorem dX8_readsCue_99 : decode cX8_readsCue 99 = .ok (.putfield 149, 3) := by decide +kernel
theorem dX8_readsCue_102 : decode cX8_readsCue 102 = .ok (.aload_n 0, 1) := by decide +kernel
theorem dX8_readsCue_103 : decode cX8_readsCue 103 = .ok (.bipush 42, 2) := by decide +kernel
theorem dX8_readsCue_105 : decode cX8_readsCue 105 = .ok (.invokevirtual 158, 3) := by decide +kernel
theorem dX8_readsCue_108 : decode cX8_readsCue 108 = .ok (.ifCond .eq 15, 3) := by decide +kernel
theorem dX8_readsCue_111 : decode cX8_readsCue 111 = .ok (.aload_n 0, 1) := by decide +kernel
theorem dX8_readsCue_112 : decode cX8_readsCue 112 = .ok (.iconst 1, 1) := by decide +kernel
theorem dX8_readsCue_113 : decode cX8_readsCue 113 = .ok (.bipush 20, 2) := by decide +kernel
theorem dX8_readsCue_115 : decode cX8_readsCue 115 = .ok (.invokevirtual 155, 3) := by decide +kernel
theorem dX8_readsCue_118 : decode cX8_readsCue 118 = .ok (.ifCond .ne 5, 3) := by decide +kernel
theorem dX8_readsCue_121 : decode cX8_readsCue 121 = .ok (.iconst 0, 1) := by decide +kernel
theorem dX8_readsCue_122 : decode cX8_readsCue 122 = .ok (.ireturn, 1) := by decide +kernel
theorem dX8_readsCue_123 : decode cX8_readsCue 123 = .ok (.aload_n 0, 1) := by decide +kernel
theorem dX8_readsCue_124 : decode cX8_readsCue 124 = .ok (.getfield 58, 3) := by decide +kernel
theorem dX8_readsCue_127 : decode cX8_readsCue 127 = .ok (.iload_n 1, 1) := by decide +kernel
theorem dX8_readsCue_128 : decode cX8_readsCue 128 = .ok (.iconst 3, 1) := by decide +kernel
theorem dX8_readsCue_129 : decode cX8_readsCue 129 = .ok (.iadd, 1) := by decide +kernel
theorem dX8_readsCue_130 : decode cX8_readsCue 130 = .ok (.aload_n 0, 1) := by decide +kernel
theorem dX8_readsCue_131 : decode cX8_readsCue 131 = .ok (.getfield 149, 3) := by decide +kernel
theorem dX8_readsCue_134 : decode cX8_readsCue 134 = .ok (.iastore, 1) := by decide +kernel
theorem dX8_readsCue_135 : decode cX8_readsCue 135 = .ok (.aload_n 0, 1) := by decide +kernel
theorem dX8_readsCue_136 : decode cX8_readsCue 136 = .ok (.dup, 1) := by decide +kernel
theorem dX8_readsCue_137 : decode cX8_readsCue 137 = .ok (.getfield 152, 3) := by decide +kernel
theorem dX8_readsCue_140 : decode cX8_readsCue 140 = .ok (.iconst 1, 1) := by decide +kernel
theorem dX8_readsCue_141 : decode cX8_readsCue 141 = .ok (.iadd, 1) := by decide +kernel
theorem dX8_readsCue_142 : decode cX8_readsCue 142 = .ok (.putfield 152, 3) := by decide +kernel
theorem dX8_readsCue_145 : decode cX8_readsCue 145 = .ok (.iconst 1, 1) := by decide +kernel
theorem dX8_readsCue_146 : decode cX8_readsCue 146 = .ok (.ireturn, 1) := by decide +kernel
set_option maxRecDepth 20000 in
theorem ggX8_readsCue_X8_readsNumber : GoodIn wsX8_readsCue wsX8_readsNumber := goodIn_r _ [8, 9, 10, 3, 11, 12, 13, 7, 14, 15, 16, 17, 18, 23, 24, 25, 26, 27, 28, 29, 30, 31, 32, 33, 34, 35, 36, 37, 38, 39, 40, 41, 42, 43, 44, 45, 46, 47] (by decide +kernel) (by decide +kernel)
set_option maxRecDepth 20000 in
theorem gX8_readsCue_X8_readsNumber : GoodIn wsX8_readsCue (wsV RX8 155 RX8 yX8_readsNumber wsX8_readsNumber) := goodIn_app (goodIn_of _ (by decide +kernel)) ggX8_readsCue_X8_readsNumber
set_option maxRecDepth 20000 in
theorem ggX8_readsCue_X8_takes : GoodIn wsX8_readsCue wsX8_takes := goodIn_r _ [22, 10, 11, 12, 13, 7, 14, 15, 9, 16, 17, 18, 23, 24, 25, 26, 27, 28, 29, 30, 31, 32, 33, 34, 35, 36, 37, 38, 39, 40, 41, 42, 43, 44, 45, 46, 47] (by decide +kernel) (by decide +kernel)
set_option maxRecDepth 20000 in
theorem gX8_readsCue_X8_takes : GoodIn wsX8_readsCue (wsV RX8 158 RX8 yX8_takes wsX8_takes) := goodIn_app (goodIn_of _ (by decide +kernel)) ggX8_readsCue_X8_takes
theorem iX8_readsCue_8 : ∀ w ∈ u_ws RX8 TX8 25, w ∈ wsX8_readsCue := fun w h => List.mem_cons_of_mem _ (List.mem_append_right _ (h))
set_option maxHeartbeats 4000000 in
set_option maxRecDepth 100000 in
theorem w_X8_readsCue_J123 {p : Program} {l : Launch} {e : Env} {s : State} {m : MethodId} {args : Array Value} {below : List Frame} {meth : Method} {c : Code} {E : EE} {g : GG} {ad : Nat → Nat} (hg : gwf g) (X : CallFix p m c cX8_readsCue 2 s args wsX8_readsCue RX8) (K : Kn E s) (hr : meth.sig.returnType = (some .boolean)) (hlk : meth.locks = false) {Q : Int → Mm → Prop} : ∀ (o0 : Nat) (x1 : Int) (M : Mm) (H : Heap) (locs : List Loc) (ls : Array Slot), gk g o0 = 8 → Rw E g ad M s.heap H locs → lv_has ls 2 [(0, .ref (ad o0)), (1, cI x1)] → p_X8_readsCue_J123 g o0 x1 M Q → W p l e rmX8_readsCue s m args below meth c H locs 0 0 (MQ below (QI E g ad Q) args s 0 0 (Rg g ad)) (F0 m 123 ls []) := by
  intro o0 x1 M H locs ls k_o0 w hl h
  unfold p_X8_readsCue_J123 at h
  refine lv_aload_n X.1 X.2.1 dX8_readsCue_123 rfl (lv_at hl 0 rfl) ?_
  refine r_getr (N := 25) (T := TX8) X K w iX8_readsCue_8 k_o0 rfl (by decide) 23 (by decide) rfl rfl (List.mem_of_getElem? (i := 2) rfl) dX8_readsCue_124 ?_
  have k20 : gk g (o0 + 17) = 9 := gch hg k_o0 (by decide) 23 (by decide) rfl rfl
  refine lv_iload_n X.1 X.2.1 dX8_readsCue_127 rfl (lv_at hl 1 rfl) ?_
  refine r_iconst X dX8_readsCue_128 ?_
  refine r_iadd X dX8_readsCue_129 ?_
  refine lv_aload_n X.1 X.2.1 dX8_readsCue_130 rfl (lv_at hl 0 rfl) ?_
  refine r_geti (N := 25) (T := TX8) (kz := 22) X K w iX8_readsCue_8 k_o0 rfl (by decide) 22 (by decide) rfl rfl rfl (List.mem_of_getElem? (i := 3) rfl) dX8_readsCue_131 ?_
  obtain ⟨b0, b1, h⟩ := h
  refine r_iast X K w hg k20 b0 b1 dX8_readsCue_134 (fun M21 H locs e w => ?_)
  replace h := h M21 e
  refine lv_aload_n X.1 X.2.1 dX8_readsCue_135 rfl (lv_at hl 0 rfl) ?_
  refine lv_dup X.1 X.2.1 dX8_readsCue_136 rfl ?_
  refine r_geti (N := 25) (T := TX8) (kz := 24) X K w iX8_readsCue_8 k_o0 rfl (by decide) 24 (by decide) rfl rfl rfl (List.mem_of_getElem? (i := 1) rfl) dX8_readsCue_137 ?_
  refine r_iconst X dX8_readsCue_140 ?_
  refine r_iadd X dX8_readsCue_141 ?_
  refine r_puti (N := 25) (T := TX8) (kz := 24) (ty := .int) X K w iX8_readsCue_8 tyX8 tyX8_ok nmX8 k_o0 rfl (by decide) 24 (by decide) rfl rfl rfl rfl (by decide +kernel) rfl rfl (List.mem_of_getElem? (i := 1) rfl) dX8_readsCue_142 (fun M22 H locs e w => ?_)
  replace h := h M22 e
  refine r_iconst X dX8_readsCue_145 ?_
  exact r_zreturn X hr hlk K w (by decide +kernel) h dX8_readsCue_146
set_option maxHeartbeats 4000000 in
set_option maxRecDepth 100000 in
theorem c_X8_readsCue {E : EE} {l : Launch} {g : GG} {ad : Nat → Nat} (hg : gwf g) {o0 : Nat} {M : Mm} {Q : Int → Mm → Prop} (k_o0 : gk g o0 = 8) (h : p_X8_readsCue g o0 M Q) : Ct E l yX8_readsCue wsX8_readsCue rmX8_readsCue g ad [.ref (ad o0)] M (QI E g ad Q) := by
  refine ent (cc := cX8_readsCue) (maxL := 2) (ret := (some .boolean)) (own := RX8) (by decide +kernel) rfl rfl (Nat.le_of_ble_eq_true rfl) ?_
  intro p e s m below meth c ls X hr hlk K w hl
  have hl : lv_has ls 2 [(0, .ref (ad o0))] := hl
  unfold p_X8_readsCue at h
  refine r_iconst X dX8_readsCue_0 ?_
  refine lv_aload_n X.1 X.2.1 dX8_readsCue_1 rfl (lv_at hl 0 rfl) ?_
  refine r_geti (N := 25) (T := TX8) (kz := 24) X K w iX8_readsCue_8 k_o0 rfl (by decide) 24 (by decide) rfl rfl rfl (List.mem_of_getElem? (i := 1) rfl) dX8_readsCue_2 ?_
  refine r_imul X dX8_readsCue_5 ?_
  refine lv_istore_n (lv' := [(1, cI (4 * (M o0 24))), (0, .ref (ad o0))]) X.1 X.2.1 dX8_readsCue_6 rfl hl (by decide) rfl (fun ls hl => ?_)
  refine lv_aload_n X.1 X.2.1 dX8_readsCue_7 rfl (lv_at hl 1 rfl) ?_
  refine r_iconst X dX8_readsCue_8 ?_
  refine r_iconst X dX8_readsCue_9 ?_
  refine q_i (x_V (As := [cI 0, cI 5]) (rest := []) X K w (c_X8_readsNumber hg k_o0 h) (cwV 2 X.2.2.2.2 gX8_readsCue_X8_readsNumber rfl rfl rfl (by decide +kernel) ⟨Nat.le_of_ble_eq_true rfl, Nat.le_of_ble_eq_true rfl⟩) k_o0 (by decide) rfl rfl hl rfl (Nat.le_of_ble_eq_true rfl) dX8_readsCue_10 ⟨Nat.le_of_ble_eq_true rfl, Nat.le_of_ble_eq_true rfl⟩) w (fun r2 M1 H locs h w => ?_)
  obtain ⟨i0, h1, h2⟩ := h
  refine r_if_ne (tgt := 18) X i0 dX8_readsCue_13 (by decide) (fun cc => ?_) (fun cc => ?_)
  · have h := h1 cc
    refine lv_aload_n X.1 X.2.1 dX8_readsCue_18 rfl (lv_at hl 1 rfl) ?_
    refine r_getr (N := 25) (T := TX8) X K w iX8_readsCue_8 k_o0 rfl (by decide) 23 (by decide) rfl rfl (List.mem_of_getElem? (i := 2) rfl) dX8_readsCue_19 ?_
    have k3 : gk g (o0 + 17) = 9 := gch hg k_o0 (by decide) 23 (by decide) rfl rfl
    refine lv_iload_n X.1 X.2.1 dX8_readsCue_22 rfl (lv_at hl 0 rfl) ?_
    refine r_iconst X dX8_readsCue_23 ?_
    refine r_iadd X dX8_readsCue_24 ?_
    refine lv_aload_n X.1 X.2.1 dX8_readsCue_25 rfl (lv_at hl 1 rfl) ?_
    refine r_geti (N := 25) (T := TX8) (kz := 22) X K w iX8_readsCue_8 k_o0 rfl (by decide) 22 (by decide) rfl rfl rfl (List.mem_of_getElem? (i := 3) rfl) dX8_readsCue_26 ?_
    obtain ⟨b0, b1, h⟩ := h
    refine r_iast X K w hg k3 b0 b1 dX8_readsCue_29 (fun M4 H locs e w => ?_)
    replace h := h M4 e
    refine lv_aload_n X.1 X.2.1 dX8_readsCue_30 rfl (lv_at hl 1 rfl) ?_
    refine r_bipush X dX8_readsCue_31 (by decide +kernel) ?_
    refine q_i (x_V (As := [cI 64]) (rest := []) X K w (c_X8_takes hg k_o0 h) (cwV 1 X.2.2.2.2 gX8_readsCue_X8_takes rfl rfl rfl (by decide +kernel) ⟨Nat.le_of_ble_eq_true rfl, Nat.le_of_ble_eq_true rfl⟩) k_o0 (by decide) rfl rfl hl rfl (Nat.le_of_ble_eq_true rfl) dX8_readsCue_33 ⟨Nat.le_of_ble_eq_true rfl, Nat.le_of_ble_eq_true rfl⟩) w (fun r6 M5 H locs h w => ?_)
    obtain ⟨i0, h1, h2⟩ := h
    refine r_if_eq (tgt := 50) X i0 dX8_readsCue_36 (by decide) (fun cc => ?_) (fun cc => ?_)
    · have h := h1 cc
      refine r_iconst X dX8_readsCue_50 ?_
      exact r_zreturn X hr hlk K w (by decide +kernel) h dX8_readsCue_51
    · have h := h2 cc
      refine lv_aload_n X.1 X.2.1 dX8_readsCue_39 rfl (lv_at hl 1 rfl) ?_
      refine r_iconst X dX8_readsCue_40 ?_
      refine r_sipush X dX8_readsCue_41 (by decide +kernel) ?_
      refine q_i (x_V (As := [cI 0, cI 999]) (rest := []) X K w (c_X8_readsNumber hg k_o0 h) (cwV 2 X.2.2.2.2 gX8_readsCue_X8_readsNumber rfl rfl rfl (by decide +kernel) ⟨Nat.le_of_ble_eq_true rfl, Nat.le_of_ble_eq_true rfl⟩) k_o0 (by decide) rfl rfl hl rfl (Nat.le_of_ble_eq_true rfl) dX8_readsCue_44 ⟨Nat.le_of_ble_eq_true rfl, Nat.le_of_ble_eq_true rfl⟩) w (fun r8 M7 H locs h w => ?_)
      obtain ⟨i0, h1, h2⟩ := h
      refine r_if_ne (tgt := 52) X i0 dX8_readsCue_47 (by decide) (fun cc => ?_) (fun cc => ?_)
      · have h := h1 cc
        refine lv_aload_n X.1 X.2.1 dX8_readsCue_52 rfl (lv_at hl 1 rfl) ?_
        refine r_getr (N := 25) (T := TX8) X K w iX8_readsCue_8 k_o0 rfl (by decide) 23 (by decide) rfl rfl (List.mem_of_getElem? (i := 2) rfl) dX8_readsCue_53 ?_
        have k9 : gk g (o0 + 17) = 9 := gch hg k_o0 (by decide) 23 (by decide) rfl rfl
        refine lv_iload_n X.1 X.2.1 dX8_readsCue_56 rfl (lv_at hl 0 rfl) ?_
        refine r_iconst X dX8_readsCue_57 ?_
        refine r_iadd X dX8_readsCue_58 ?_
        refine lv_aload_n X.1 X.2.1 dX8_readsCue_59 rfl (lv_at hl 1 rfl) ?_
        refine r_geti (N := 25) (T := TX8) (kz := 22) X K w iX8_readsCue_8 k_o0 rfl (by decide) 22 (by decide) rfl rfl rfl (List.mem_of_getElem? (i := 3) rfl) dX8_readsCue_60 ?_
        obtain ⟨b0, b1, h⟩ := h
        refine r_iast X K w hg k9 b0 b1 dX8_readsCue_63 (fun M10 H locs e w => ?_)
        replace h := h M10 e
        refine lv_aload_n X.1 X.2.1 dX8_readsCue_64 rfl (lv_at hl 1 rfl) ?_
        refine r_bipush X dX8_readsCue_65 (by decide +kernel) ?_
        refine q_i (x_V (As := [cI 115]) (rest := []) X K w (c_X8_takes hg k_o0 h) (cwV 1 X.2.2.2.2 gX8_readsCue_X8_takes rfl rfl rfl (by decide +kernel) ⟨Nat.le_of_ble_eq_true rfl, Nat.le_of_ble_eq_true rfl⟩) k_o0 (by decide) rfl rfl hl rfl (Nat.le_of_ble_eq_true rfl) dX8_readsCue_67 ⟨Nat.le_of_ble_eq_true rfl, Nat.le_of_ble_eq_true rfl⟩) w (fun r12 M11 H locs h w => ?_)
        obtain ⟨i0, h1, h2⟩ := h
        refine r_if_eq (tgt := 83) X i0 dX8_readsCue_70 (by decide) (fun cc => ?_) (fun cc => ?_)
        · have h := h1 cc
          refine r_iconst X dX8_readsCue_83 ?_
          exact r_zreturn X hr hlk K w (by decide +kernel) h dX8_readsCue_84
        · have h := h2 cc
          refine lv_aload_n X.1 X.2.1 dX8_readsCue_73 rfl (lv_at hl 1 rfl) ?_
          refine r_iconst X dX8_readsCue_74 ?_
          refine r_bipush X dX8_readsCue_75 (by decide +kernel) ?_
          refine q_i (x_V (As := [cI 0, cI 9]) (rest := []) X K w (c_X8_readsNumber hg k_o0 h) (cwV 2 X.2.2.2.2 gX8_readsCue_X8_readsNumber rfl rfl rfl (by decide +kernel) ⟨Nat.le_of_ble_eq_true rfl, Nat.le_of_ble_eq_true rfl⟩) k_o0 (by decide) rfl rfl hl rfl (Nat.le_of_ble_eq_true rfl) dX8_readsCue_77 ⟨Nat.le_of_ble_eq_true rfl, Nat.le_of_ble_eq_true rfl⟩) w (fun r14 M13 H locs h w => ?_)
          obtain ⟨i0, h1, h2⟩ := h
          refine r_if_ne (tgt := 85) X i0 dX8_readsCue_80 (by decide) (fun cc => ?_) (fun cc => ?_)
          · have h := h1 cc
            refine lv_aload_n X.1 X.2.1 dX8_readsCue_85 rfl (lv_at hl 1 rfl) ?_
            refine r_getr (N := 25) (T := TX8) X K w iX8_readsCue_8 k_o0 rfl (by decide) 23 (by decide) rfl rfl (List.mem_of_getElem? (i := 2) rfl) dX8_readsCue_86 ?_
            have k15 : gk g (o0 + 17) = 9 := gch hg k_o0 (by decide) 23 (by decide) rfl rfl
            refine lv_iload_n X.1 X.2.1 dX8_readsCue_89 rfl (lv_at hl 0 rfl) ?_
            refine r_iconst X dX8_readsCue_90 ?_
            refine r_iadd X dX8_readsCue_91 ?_
            refine lv_aload_n X.1 X.2.1 dX8_readsCue_92 rfl (lv_at hl 1 rfl) ?_
            refine r_geti (N := 25) (T := TX8) (kz := 22) X K w iX8_readsCue_8 k_o0 rfl (by decide) 22 (by decide) rfl rfl rfl (List.mem_of_getElem? (i := 3) rfl) dX8_readsCue_93 ?_
            obtain ⟨b0, b1, h⟩ := h
            refine r_iast X K w hg k15 b0 b1 dX8_readsCue_96 (fun M16 H locs e w => ?_)
            replace h := h M16 e
            refine lv_aload_n X.1 X.2.1 dX8_readsCue_97 rfl (lv_at hl 1 rfl) ?_
            refine r_iconst X dX8_readsCue_98 ?_
            refine r_puti (N := 25) (T := TX8) (kz := 22) (ty := .int) X K w iX8_readsCue_8 tyX8 tyX8_ok nmX8 k_o0 rfl (by decide) 22 (by decide) rfl rfl rfl rfl (by decide +kernel) rfl rfl (List.mem_of_getElem? (i := 3) rfl) dX8_readsCue_99 (fun M17 H locs e w => ?_)
            replace h := h M17 e
            refine lv_aload_n X.1 X.2.1 dX8_readsCue_102 rfl (lv_at hl 1 rfl) ?_
            refine r_bipush X dX8_readsCue_103 (by decide +kernel) ?_
            refine q_i (x_V (As := [cI 42]) (rest := []) X K w (c_X8_takes hg k_o0 h) (cwV 1 X.2.2.2.2 gX8_readsCue_X8_takes rfl rfl rfl (by decide +kernel) ⟨Nat.le_of_ble_eq_true rfl, Nat.le_of_ble_eq_true rfl⟩) k_o0 (by decide) rfl rfl hl rfl (Nat.le_of_ble_eq_true rfl) dX8_readsCue_105 ⟨Nat.le_of_ble_eq_true rfl, Nat.le_of_ble_eq_true rfl⟩) w (fun r19 M18 H locs h w => ?_)
            obtain ⟨i0, h1, h2⟩ := h
            refine r_if_eq (tgt := 123) X i0 dX8_readsCue_108 (by decide) (fun cc => ?_) (fun cc => ?_)
            · have h := h1 cc
              exact w_X8_readsCue_J123 hg X K hr hlk o0 (4 * (M o0 24)) M18 _ _ _ k_o0 w (lv_sub hl [1, 0] rfl) h
            · have h := h2 cc
              refine lv_aload_n X.1 X.2.1 dX8_readsCue_111 rfl (lv_at hl 1 rfl) ?_
              refine r_iconst X dX8_readsCue_112 ?_
              refine r_bipush X dX8_readsCue_113 (by decide +kernel) ?_
              refine q_i (x_V (As := [cI 1, cI 20]) (rest := []) X K w (c_X8_readsNumber hg k_o0 h) (cwV 2 X.2.2.2.2 gX8_readsCue_X8_readsNumber rfl rfl rfl (by decide +kernel) ⟨Nat.le_of_ble_eq_true rfl, Nat.le_of_ble_eq_true rfl⟩) k_o0 (by decide) rfl rfl hl rfl (Nat.le_of_ble_eq_true rfl) dX8_readsCue_115 ⟨Nat.le_of_ble_eq_true rfl, Nat.le_of_ble_eq_true rfl⟩) w (fun r24 M23 H locs h w => ?_)
              obtain ⟨i0, h1, h2⟩ := h
              refine r_if_ne (tgt := 123) X i0 dX8_readsCue_118 (by decide) (fun cc => ?_) (fun cc => ?_)
              · have h := h1 cc
                exact w_X8_readsCue_J123 hg X K hr hlk o0 (4 * (M o0 24)) M23 _ _ _ k_o0 w (lv_sub hl [1, 0] rfl) h
              · have h := h2 cc
                refine r_iconst X dX8_readsCue_121 ?_
                exact r_zreturn X hr hlk K w (by decide +kernel) h dX8_readsCue_122
          · have h := h2 cc
            refine r_iconst X dX8_readsCue_83 ?_
            exact r_zreturn X hr hlk K w (by decide +kernel) h dX8_readsCue_84
      · have h := h2 cc
        refine r_iconst X dX8_readsCue_50 ?_
        exact r_zreturn X hr hlk K w (by decide +kernel) h dX8_readsCue_51
  · have h := h2 cc
    refine r_iconst X dX8_readsCue_16 ?_
    exact r_zreturn X hr hlk K w (by decide +kernel) h dX8_readsCue_17
theorem dX8_fault_0 : decode cX8_fault 0 = .ok (.aload_n 0, 1) := by decide +kernel
theorem dX8_fault_1 : decode cX8_fault 1 = .ok (.iconst 0, 1) := by decide +kernel
theorem dX8_fault_2 : decode cX8_fault 2 = .ok (.putfield 143, 3) := by decide +kernel
theorem dX8_fault_5 : decode cX8_fault 5 = .ok (.aload_n 0, 1) := by decide +kernel
theorem dX8_fault_6 : decode cX8_fault 6 = .ok (.iconst 0, 1) := by decide +kernel
theorem dX8_fault_7 : decode cX8_fault 7 = .ok (.putfield 152, 3) := by decide +kernel
theorem dX8_fault_10 : decode cX8_fault 10 = .ok (.iconst 1, 1) := by decide +kernel
theorem dX8_fault_11 : decode cX8_fault 11 = .ok (.istore_n 1, 1) := by decide +kernel
theorem dX8_fault_12 : decode cX8_fault 12 = .ok (.iload_n 1, 1) := by decide +kernel
theorem dX8_fault_13 : decode cX8_fault 13 = .ok (.ifCond .eq 25, 3) := by decide +kernel
theorem dX8_fault_16 : decode cX8_fault 16 = .ok (.aload_n 0, 1) := by decide +kernel
theorem dX8_fault_17 : decode cX8_fault 17 = .ok (.invokevirtual 161, 3) := by decide +kernel
theorem dX8_fault_20 : decode cX8_fault 20 = .ok (.ifCond .ne 8, 3) := by decide +kernel
theorem dX8_fault_23 : decode cX8_fault 23 = .ok (.aload_n 0, 1) := by decide +kernel
theorem dX8_fault_24 : decode cX8_fault 24 = .ok (.getfield 143, 3) := by decide +kernel
theorem dX8_fault_27 : decode cX8_fault 27 = .ok (.ireturn, 1) := by decide +kernel
theorem dX8_fault_28 : decode cX8_fault 28 = .ok (.aload_n 0, 1) := by decide +kernel
theorem dX8_fault_29 : decode cX8_fault 29 = .ok (.bipush 44, 2) := by decide +kernel
theorem dX8_fault_31 : decode cX8_fault 31 = .ok (.invokevirtual 158, 3) := by decide +kernel
theorem dX8_fault_34 : decode cX8_fault 34 = .ok (.istore_n 1, 1) := by decide +kernel
theorem dX8_fault_35 : decode cX8_fault 35 = .ok (.goto (-23), 3) := by decide +kernel
theorem dX8_fault_38 : decode cX8_fault 38 = .ok (.aload_n 0, 1) := by decide +kernel
theorem dX8_fault_39 : decode cX8_fault 39 = .ok (.getfield 143, 3) := by decide +kernel
theorem dX8_fault_42 : decode cX8_fault 42 = .ok (.aload_n 0, 1) := by decide +kernel
theorem dX8_fault_43 : decode cX8_fault 43 = .ok (.getfield 140, 3) := by decide +kernel
theorem dX8_fault_46 : decode cX8_fault 46 = .ok (.if_icmp .ne 8, 3) := by decide +kernel
theorem dX8_fault_49 : decode cX8_fault 49 = .ok (.bipush (-5), 2) := by decide +kernel
theorem dX8_fault_51 : decode cX8_fault 51 = .ok (.goto 7, 3) := by decide +kernel
theorem dX8_fault_54 : decode cX8_fault 54 = .ok (.aload_n 0, 1) := by decide +kernel
theorem dX8_fault_55 : decode cX8_fault 55 = .ok (.getfield 143, 3) := by decide +kernel
theorem dX8_fault_58 : decode cX8_fault 58 = .ok (.ireturn, 1) := by decide +kernel
set_option maxRecDepth 20000 in
theorem ggX8_fault_X8_readsCue : GoodIn wsX8_fault wsX8_readsCue := goodIn_r _ [8, 2, 9, 10, 11, 12, 13, 7, 14, 15, 1, 16, 17, 18, 19, 3, 20, 21, 22, 23, 24, 25, 26, 27, 28, 29, 30, 31, 32, 33, 34, 35, 36, 37, 38, 39, 40, 41, 42, 43, 44, 45, 46, 47, 48, 49, 50, 51] (by decide +kernel) (by decide +kernel)
set_option maxRecDepth 20000 in
theorem gX8_fault_X8_readsCue : GoodIn wsX8_fault (wsV RX8 161 RX8 yX8_readsCue wsX8_readsCue) := goodIn_app (goodIn_of _ (by decide +kernel)) ggX8_fault_X8_readsCue
set_option maxRecDepth 20000 in
theorem ggX8_fault_X8_takes : GoodIn wsX8_fault wsX8_takes := goodIn_r _ [26, 1, 16, 17, 18, 7, 19, 3, 15, 20, 21, 22, 27, 28, 29, 30, 31, 32, 33, 34, 35, 36, 37, 38, 39, 40, 41, 42, 43, 44, 45, 46, 47, 48, 49, 50, 51] (by decide +kernel) (by decide +kernel)
set_option maxRecDepth 20000 in
theorem gX8_fault_X8_takes : GoodIn wsX8_fault (wsV RX8 158 RX8 yX8_takes wsX8_takes) := goodIn_app (goodIn_of _ (by decide +kernel)) ggX8_fault_X8_takes
theorem iX8_fault_8 : ∀ w ∈ u_ws RX8 TX8 25, w ∈ wsX8_fault := fun w h => List.mem_cons_of_mem _ (List.mem_append_right _ (h))
set_option maxHeartbeats 4000000 in
set_option maxRecDepth 100000 in
theorem w_X8_fault_L12 {p : Program} {l : Launch} {e : Env} {s : State} {m : MethodId} {args : Array Value} {below : List Frame} {meth : Method} {c : Code} {E : EE} {g : GG} {ad : Nat → Nat} (hg : gwf g) (X : CallFix p m c cX8_fault 2 s args wsX8_fault RX8) (K : Kn E s) (hr : meth.sig.returnType = (some .int)) (hlk : meth.locks = false) {Q : Int → Mm → Prop} : ∀ (n : Nat) (o0 : Nat) (x1 : Int) (M : Mm) (H : Heap) (locs : List Loc) (ls : Array Slot), gk g o0 = 8 → Rw E g ad M s.heap H locs → lv_has ls 2 [(0, .ref (ad o0)), (1, cI x1)] → p_X8_fault_L12 g n o0 x1 M Q → W p l e rmX8_fault s m args below meth c H locs 0 0 (MQ below (QI E g ad Q) args s 0 0 (Rg g ad)) (F0 m 12 ls []) := by
  intro n
  induction n with
  | zero =>
    intro o0 x1 M H locs ls k_o0 w hl h
    exact absurd h (by unfold p_X8_fault_L12; exact id)
  | succ n ih =>
    intro o0 x1 M H locs ls k_o0 w hl h
    unfold p_X8_fault_L12 at h
    refine lv_iload_n X.1 X.2.1 dX8_fault_12 rfl (lv_at hl 1 rfl) ?_
    obtain ⟨i0, h1, h2⟩ := h
    refine r_if_eq (tgt := 38) X i0 dX8_fault_13 (by decide) (fun cc => ?_) (fun cc => ?_)
    · have h := h1 cc
      refine lv_aload_n X.1 X.2.1 dX8_fault_38 rfl (lv_at hl 0 rfl) ?_
      refine r_geti (N := 25) (T := TX8) (kz := 21) X K w iX8_fault_8 k_o0 rfl (by decide) 21 (by decide) rfl rfl rfl (List.mem_of_getElem? (i := 1) rfl) dX8_fault_39 ?_
      refine lv_aload_n X.1 X.2.1 dX8_fault_42 rfl (lv_at hl 0 rfl) ?_
      refine r_geti (N := 25) (T := TX8) (kz := 20) X K w iX8_fault_8 k_o0 rfl (by decide) 20 (by decide) rfl rfl rfl (List.mem_of_getElem? (i := 3) rfl) dX8_fault_43 ?_
      obtain ⟨i0, i1, h1, h2⟩ := h
      refine r_icmp_ne (tgt := 54) X i0 i1 dX8_fault_46 (by decide) (fun cc => ?_) (fun cc => ?_)
      · have h := h1 cc
        refine lv_aload_n X.1 X.2.1 dX8_fault_54 rfl (lv_at hl 0 rfl) ?_
        refine r_geti (N := 25) (T := TX8) (kz := 21) X K w iX8_fault_8 k_o0 rfl (by decide) 21 (by decide) rfl rfl rfl (List.mem_of_getElem? (i := 1) rfl) dX8_fault_55 ?_
        exact r_ireturn X hr hlk K w h dX8_fault_58
      · have h := h2 cc
        refine r_bipush X dX8_fault_49 (by decide +kernel) ?_
        refine lv_goto (tgt := 58) X.1 X.2.1 dX8_fault_51 (by decide) ?_
        exact r_ireturn X hr hlk K w h dX8_fault_58
    · have h := h2 cc
      refine lv_aload_n X.1 X.2.1 dX8_fault_16 rfl (lv_at hl 0 rfl) ?_
      refine q_i (x_V (As := []) (rest := []) X K w (c_X8_readsCue hg k_o0 h) (cwV 0 X.2.2.2.2 gX8_fault_X8_readsCue rfl rfl rfl (by decide +kernel) ⟨Nat.le_of_ble_eq_true rfl, Nat.le_of_ble_eq_true rfl⟩) k_o0 (by decide) rfl rfl hl rfl (Nat.le_of_ble_eq_true rfl) dX8_fault_17 ⟨Nat.le_of_ble_eq_true rfl, Nat.le_of_ble_eq_true rfl⟩) w (fun r4 M3 H locs h w => ?_)
      obtain ⟨i0, h1, h2⟩ := h
      refine r_if_ne (tgt := 28) X i0 dX8_fault_20 (by decide) (fun cc => ?_) (fun cc => ?_)
      · have h := h1 cc
        refine lv_aload_n X.1 X.2.1 dX8_fault_28 rfl (lv_at hl 0 rfl) ?_
        refine r_bipush X dX8_fault_29 (by decide +kernel) ?_
        refine q_i (x_V (As := [cI 44]) (rest := []) X K w (c_X8_takes hg k_o0 h) (cwV 1 X.2.2.2.2 gX8_fault_X8_takes rfl rfl rfl (by decide +kernel) ⟨Nat.le_of_ble_eq_true rfl, Nat.le_of_ble_eq_true rfl⟩) k_o0 (by decide) rfl rfl hl rfl (Nat.le_of_ble_eq_true rfl) dX8_fault_31 ⟨Nat.le_of_ble_eq_true rfl, Nat.le_of_ble_eq_true rfl⟩) w (fun r6 M5 H locs h w => ?_)
        refine lv_istore_n (lv' := [(1, cI r6), (0, .ref (ad o0))]) X.1 X.2.1 dX8_fault_34 rfl hl (by decide) rfl (fun ls hl => ?_)
        refine lv_goto (tgt := 12) X.1 X.2.1 dX8_fault_35 (by decide) ?_
        exact ih o0 r6 M5 _ _ _ k_o0 w (lv_sub hl [1, 0] rfl) h
      · have h := h2 cc
        refine lv_aload_n X.1 X.2.1 dX8_fault_23 rfl (lv_at hl 0 rfl) ?_
        refine r_geti (N := 25) (T := TX8) (kz := 21) X K w iX8_fault_8 k_o0 rfl (by decide) 21 (by decide) rfl rfl rfl (List.mem_of_getElem? (i := 1) rfl) dX8_fault_24 ?_
        exact r_ireturn X hr hlk K w h dX8_fault_27
set_option maxHeartbeats 4000000 in
set_option maxRecDepth 100000 in
theorem c_X8_fault {E : EE} {l : Launch} {g : GG} {ad : Nat → Nat} (hg : gwf g) {o0 : Nat} {M : Mm} {Q : Int → Mm → Prop} (k_o0 : gk g o0 = 8) (h : p_X8_fault g o0 M Q) : Ct E l yX8_fault wsX8_fault rmX8_fault g ad [.ref (ad o0)] M (QI E g ad Q) := by
  refine ent (cc := cX8_fault) (maxL := 2) (ret := (some .int)) (own := RX8) (by decide +kernel) rfl rfl (Nat.le_of_ble_eq_true rfl) ?_
  intro p e s m below meth c ls X hr hlk K w hl
  have hl : lv_has ls 2 [(0, .ref (ad o0))] := hl
  unfold p_X8_fault at h
  refine lv_aload_n X.1 X.2.1 dX8_fault_0 rfl (lv_at hl 0 rfl) ?_
  refine r_iconst X dX8_fault_1 ?_
  refine r_puti (N := 25) (T := TX8) (kz := 21) (ty := .int) X K w iX8_fault_8 tyX8 tyX8_ok nmX8 k_o0 rfl (by decide) 21 (by decide) rfl rfl rfl rfl (by decide +kernel) rfl rfl (List.mem_of_getElem? (i := 1) rfl) dX8_fault_2 (fun M1 H locs e w => ?_)
  replace h := h M1 e
  refine lv_aload_n X.1 X.2.1 dX8_fault_5 rfl (lv_at hl 0 rfl) ?_
  refine r_iconst X dX8_fault_6 ?_
  refine r_puti (N := 25) (T := TX8) (kz := 24) (ty := .int) X K w iX8_fault_8 tyX8 tyX8_ok nmX8 k_o0 rfl (by decide) 24 (by decide) rfl rfl rfl rfl (by decide +kernel) rfl rfl (List.mem_of_getElem? (i := 2) rfl) dX8_fault_7 (fun M2 H locs e w => ?_)
  replace h := h M2 e
  refine r_iconst X dX8_fault_10 ?_
  refine lv_istore_n (lv' := [(1, cI 1), (0, .ref (ad o0))]) X.1 X.2.1 dX8_fault_11 rfl hl (by decide) rfl (fun ls hl => ?_)
  obtain ⟨n7, h⟩ := h
  exact w_X8_fault_L12 hg X K hr hlk n7 o0 1 M2 _ _ _ k_o0 w (lv_sub hl [1, 0] rfl) h
theorem dX8_rankRead_0 : decode cX8_rankRead 0 = .ok (.aload_n 0, 1) := by decide +kernel
theorem dX8_rankRead_1 : decode cX8_rankRead 1 = .ok (.getfield 58, 3) := by decide +kernel
theorem dX8_rankRead_4 : decode cX8_rankRead 4 = .ok (.iconst 4, 1) := by decide +kernel
theorem dX8_rankRead_5 : decode cX8_rankRead 5 = .ok (.iload_n 1, 1) := by decide +kernel
theorem dX8_rankRead_6 : decode cX8_rankRead 6 = .ok (.imul, 1) := by decide +kernel
theorem dX8_rankRead_7 : decode cX8_rankRead 7 = .ok (.iconst 1, 1) := by decide +kernel
theorem dX8_rankRead_8 : decode cX8_rankRead 8 = .ok (.iadd, 1) := by decide +kernel
theorem dX8_rankRead_9 : decode cX8_rankRead 9 = .ok (.iaload, 1) := by decide +kernel
theorem dX8_rankRead_10 : decode cX8_rankRead 10 = .ok (.aload_n 0, 1) := by decide +kernel
theorem dX8_rankRead_11 : decode cX8_rankRead 11 = .ok (.getfield 58, 3) := by decide +kernel
theorem dX8_rankRead_14 : decode cX8_rankRead 14 = .ok (.iconst 4, 1) := by decide +kernel
theorem dX8_rankRead_15 : decode cX8_rankRead 15 = .ok (.iload_n 1, 1) := by decide +kernel
theorem dX8_rankRead_16 : decode cX8_rankRead 16 = .ok (.imul, 1) := by decide +kernel
theorem dX8_rankRead_17 : decode cX8_rankRead 17 = .ok (.iconst 0, 1) := by decide +kernel
theorem dX8_rankRead_18 : decode cX8_rankRead 18 = .ok (.iadd, 1) := by decide +kernel
theorem dX8_rankRead_19 : decode cX8_rankRead 19 = .ok (.iaload, 1) := by decide +kernel
theorem dX8_rankRead_20 : decode cX8_rankRead 20 = .ok (.aload_n 0, 1) := by decide +kernel
theorem dX8_rankRead_21 : decode cX8_rankRead 21 = .ok (.getfield 58, 3) := by decide +kernel
theorem dX8_rankRead_24 : decode cX8_rankRead 24 = .ok (.iconst 4, 1) := by decide +kernel
theorem dX8_rankRead_25 : decode cX8_rankRead 25 = .ok (.iload_n 1, 1) := by decide +kernel
theorem dX8_rankRead_26 : decode cX8_rankRead 26 = .ok (.imul, 1) := by decide +kernel
theorem dX8_rankRead_27 : decode cX8_rankRead 27 = .ok (.iconst 2, 1) := by decide +kernel
theorem dX8_rankRead_28 : decode cX8_rankRead 28 = .ok (.iadd, 1) := by decide +kernel
theorem dX8_rankRead_29 : decode cX8_rankRead 29 = .ok (.iaload, 1) := by decide +kernel
theorem dX8_rankRead_30 : decode cX8_rankRead 30 = .ok (.invokestatic 81, 3) := by decide +kernel
theorem dX8_rankRead_33 : decode cX8_rankRead 33 = .ok (.ireturn, 1) := by decide +kernel
set_option maxRecDepth 20000 in
theorem ggX8_rankRead_X8_rankOf : GoodIn wsX8_rankRead wsX8_rankOf := goodIn_r _ [5] (by decide +kernel) (by decide +kernel)
set_option maxRecDepth 20000 in
theorem gX8_rankRead_X8_rankOf : GoodIn wsX8_rankRead (va_wsS RX8 81 yX8_rankOf wsX8_rankOf) := goodIn_app (goodIn_of _ (by decide +kernel)) ggX8_rankRead_X8_rankOf
theorem iX8_rankRead_8 : ∀ w ∈ u_ws RX8 TX8 25, w ∈ wsX8_rankRead := fun w h => List.mem_cons_of_mem _ (List.mem_append_right _ (h))
set_option maxHeartbeats 4000000 in
set_option maxRecDepth 100000 in
theorem c_X8_rankRead {E : EE} {l : Launch} {g : GG} {ad : Nat → Nat} (hg : gwf g) {o0 : Nat} {x1 : Int} {M : Mm} {Q : Int → Mm → Prop} (k_o0 : gk g o0 = 8) (h : p_X8_rankRead g o0 x1 M Q) : Ct E l yX8_rankRead wsX8_rankRead rmX8_rankRead g ad [.ref (ad o0), cI x1] M (QI E g ad Q) := by
  refine ent (cc := cX8_rankRead) (maxL := 2) (ret := (some .int)) (own := RX8) (by decide +kernel) rfl rfl (Nat.le_of_ble_eq_true rfl) ?_
  intro p e s m below meth c ls X hr hlk K w hl
  have hl : lv_has ls 2 [(0, .ref (ad o0)), (1, cI x1)] := hl
  unfold p_X8_rankRead at h
  refine lv_aload_n X.1 X.2.1 dX8_rankRead_0 rfl (lv_at hl 0 rfl) ?_
  refine r_getr (N := 25) (T := TX8) X K w iX8_rankRead_8 k_o0 rfl (by decide) 23 (by decide) rfl rfl (List.mem_of_getElem? (i := 1) rfl) dX8_rankRead_1 ?_
  have k1 : gk g (o0 + 17) = 9 := gch hg k_o0 (by decide) 23 (by decide) rfl rfl
  refine r_iconst X dX8_rankRead_4 ?_
  refine lv_iload_n X.1 X.2.1 dX8_rankRead_5 rfl (lv_at hl 1 rfl) ?_
  refine r_imul X dX8_rankRead_6 ?_
  refine r_iconst X dX8_rankRead_7 ?_
  refine r_iadd X dX8_rankRead_8 ?_
  obtain ⟨b0, b1, h⟩ := h
  refine r_iald X K w hg k1 b0 b1 dX8_rankRead_9 ?_
  refine lv_aload_n X.1 X.2.1 dX8_rankRead_10 rfl (lv_at hl 0 rfl) ?_
  refine r_getr (N := 25) (T := TX8) X K w iX8_rankRead_8 k_o0 rfl (by decide) 23 (by decide) rfl rfl (List.mem_of_getElem? (i := 1) rfl) dX8_rankRead_11 ?_
  have k2 : gk g (o0 + 17) = 9 := gch hg k_o0 (by decide) 23 (by decide) rfl rfl
  refine r_iconst X dX8_rankRead_14 ?_
  refine lv_iload_n X.1 X.2.1 dX8_rankRead_15 rfl (lv_at hl 1 rfl) ?_
  refine r_imul X dX8_rankRead_16 ?_
  refine r_iconst X dX8_rankRead_17 ?_
  refine r_iadd X dX8_rankRead_18 ?_
  obtain ⟨b0, b1, h⟩ := h
  refine r_iald X K w hg k2 b0 b1 dX8_rankRead_19 ?_
  refine lv_aload_n X.1 X.2.1 dX8_rankRead_20 rfl (lv_at hl 0 rfl) ?_
  refine r_getr (N := 25) (T := TX8) X K w iX8_rankRead_8 k_o0 rfl (by decide) 23 (by decide) rfl rfl (List.mem_of_getElem? (i := 1) rfl) dX8_rankRead_21 ?_
  have k3 : gk g (o0 + 17) = 9 := gch hg k_o0 (by decide) 23 (by decide) rfl rfl
  refine r_iconst X dX8_rankRead_24 ?_
  refine lv_iload_n X.1 X.2.1 dX8_rankRead_25 rfl (lv_at hl 1 rfl) ?_
  refine r_imul X dX8_rankRead_26 ?_
  refine r_iconst X dX8_rankRead_27 ?_
  refine r_iadd X dX8_rankRead_28 ?_
  obtain ⟨b0, b1, h⟩ := h
  refine r_iald X K w hg k3 b0 b1 dX8_rankRead_29 ?_
  refine q_i (x_S (As := [cI (M (o0 + 17) ((4 * x1) + 1)), cI (M (o0 + 17) ((4 * x1) + 0)), cI (M (o0 + 17) ((4 * x1) + 2))]) (rest := []) X K w (c_X8_rankOf hg h) (va_cwS 3 X.2.2.2.2 gX8_rankRead_X8_rankOf rfl rfl rfl (by decide +kernel) ⟨Nat.le_of_ble_eq_true rfl, Nat.le_of_ble_eq_true rfl⟩) rfl hl rfl (Nat.le_of_ble_eq_true rfl) dX8_rankRead_30 ⟨Nat.le_of_ble_eq_true rfl, Nat.le_of_ble_eq_true rfl⟩) w (fun r5 M4 H locs h w => ?_)
  exact r_ireturn X hr hlk K w h dX8_rankRead_33
theorem dX8_isTwice_0 : decode cX8_isTwice 0 = .ok (.iconst 0, 1) := by decide +kernel
theorem dX8_isTwice_1 : decode cX8_isTwice 1 = .ok (.istore_n 2, 1) := by decide +kernel
theorem dX8_isTwice_2 : decode cX8_isTwice 2 = .ok (.iconst 0, 1) := by decide +kernel
theorem dX8_isTwice_3 : decode cX8_isTwice 3 = .ok (.istore_n 3, 1) := by decide +kernel
theorem dX8_isTwice_4 : decode cX8_isTwice 4 = .ok (.iload_n 3, 1) := by decide +kernel
theorem dX8_isTwice_5 : decode cX8_isTwice 5 = .ok (.aload_n 0, 1) := by decide +kernel
theorem dX8_isTwice_6 : decode cX8_isTwice 6 = .ok (.getfield 7, 3) := by decide +kernel
theorem dX8_isTwice_9 : decode cX8_isTwice 9 = .ok (.bipush 36, 2) := by decide +kernel
theorem dX8_isTwice_11 : decode cX8_isTwice 11 = .ok (.iaload, 1) := by decide +kernel
theorem dX8_isTwice_12 : decode cX8_isTwice 12 = .ok (.if_icmp .ge 32, 3) := by decide +kernel
theorem dX8_isTwice_15 : decode cX8_isTwice 15 = .ok (.iload_n 2, 1) := by decide +kernel
theorem dX8_isTwice_16 : decode cX8_isTwice 16 = .ok (.ifCond .ne 16, 3) := by decide +kernel
theorem dX8_isTwice_19 : decode cX8_isTwice 19 = .ok (.aload_n 0, 1) := by decide +kernel
theorem dX8_isTwice_20 : decode cX8_isTwice 20 = .ok (.iload_n 3, 1) := by decide +kernel
theorem dX8_isTwice_21 : decode cX8_isTwice 21 = .ok (.invokevirtual 85, 3) := by decide +kernel
theorem dX8_isTwice_24 : decode cX8_isTwice 24 = .ok (.aload_n 0, 1) := by decide +kernel
theorem dX8_isTwice_25 : decode cX8_isTwice 25 = .ok (.iload_n 1, 1) := by decide +kernel
theorem dX8_isTwice_26 : decode cX8_isTwice 26 = .ok (.invokevirtual 165, 3) := by decide +kernel
theorem dX8_isTwice_29 : decode cX8_isTwice 29 = .ok (.if_icmp .ne 7, 3) := by decide +kernel
theorem dX8_isTwice_32 : decode cX8_isTwice 32 = .ok (.iconst 1, 1) := by decide +kernel
theorem dX8_isTwice_33 : decode cX8_isTwice 33 = .ok (.goto 4, 3) := by decide +kernel
theorem dX8_isTwice_36 : decode cX8_isTwice 36 = .ok (.iconst 0, 1) := by decide +kernel
theorem dX8_isTwice_37 : decode cX8_isTwice 37 = .ok (.istore_n 2, 1) := by decide +kernel
theorem dX8_isTwice_38 : decode cX8_isTwice 38 = .ok (.iinc 3 1, 3) := by decide +kernel
theorem dX8_isTwice_41 : decode cX8_isTwice 41 = .ok (.goto (-37), 3) := by decide +kernel
theorem dX8_isTwice_44 : decode cX8_isTwice 44 = .ok (.iconst 0, 1) := by decide +kernel
theorem dX8_isTwice_45 : decode cX8_isTwice 45 = .ok (.istore_n 3, 1) := by decide +kernel
theorem dX8_isTwice_46 : decode cX8_isTwice 46 = .ok (.iload_n 3, 1) := by decide +kernel
theorem dX8_isTwice_47 : decode cX8_isTwice 47 = .ok (.iload_n 1, 1) := by decide +kernel
theorem dX8_isTwice_48 : decode cX8_isTwice 48 = .ok (.if_icmp .ge 32, 3) := by decide +kernel
theorem dX8_isTwice_51 : decode cX8_isTwice 51 = .ok (.iload_n 2, 1) := by decide +kernel
theorem dX8_isTwice_52 : decode cX8_isTwice 52 = .ok (.ifCond .ne 16, 3) := by decide +kernel
theorem dX8_isTwice_55 : decode cX8_isTwice 55 = .ok (.aload_n 0, 1) := by decide +kernel
theorem dX8_isTwice_56 : decode cX8_isTwice 56 = .ok (.iload_n 3, 1) := by decide +kernel
theorem dX8_isTwice_57 : decode cX8_isTwice 57 = .ok (.invokevirtual 165, 3) := by decide +kernel
theorem dX8_isTwice_60 : decode cX8_isTwice 60 = .ok (.aload_n 0, 1) := by decide +kernel
theorem dX8_isTwice_61 : decode cX8_isTwice 61 = .ok (.iload_n 1, 1) := by decide +kernel
theorem dX8_isTwice_62 : decode cX8_isTwice 62 = .ok (.invokevirtual 165, 3) := by decide +kernel
theorem dX8_isTwice_65 : decode cX8_isTwice 65 = .ok (.if_icmp .ne 7, 3) := by decide +kernel
theorem dX8_isTwice_68 : decode cX8_isTwice 68 = .ok (.iconst 1, 1) := by decide +kernel
theorem dX8_isTwice_69 : decode cX8_isTwice 69 = .ok (.goto 4, 3) := by decide +kernel
theorem dX8_isTwice_72 : decode cX8_isTwice 72 = .ok (.iconst 0, 1) := by decide +kernel
theorem dX8_isTwice_73 : decode cX8_isTwice 73 = .ok (.istore_n 2, 1) := by decide +kernel
theorem dX8_isTwice_74 : decode cX8_isTwice 74 = .ok (.iinc 3 1, 3) := by decide +kernel
theorem dX8_isTwice_77 : decode cX8_isTwice 77 = .ok (.goto (-31), 3) := by decide +kernel
theorem dX8_isTwice_80 : decode cX8_isTwice 80 = .ok (.iload_n 2, 1) := by decide +kernel
theorem dX8_isTwice_81 : decode cX8_isTwice 81 = .ok (.ireturn, 1) := by decide +kernel
set_option maxRecDepth 20000 in
theorem ggX8_isTwice_X8_rankAt : GoodIn wsX8_isTwice wsX8_rankAt := goodIn_r _ [6, 7, 8, 9, 5, 10, 1, 11, 12, 13, 19, 20, 21, 22, 23, 24, 25, 26, 27, 28, 29, 30, 31, 32, 33, 34, 35, 36, 37, 38, 39, 40, 41, 42, 43] (by decide +kernel) (by decide +kernel)
set_option maxRecDepth 20000 in
theorem gX8_isTwice_X8_rankAt : GoodIn wsX8_isTwice (wsV RX8 85 RX8 yX8_rankAt wsX8_rankAt) := goodIn_app (goodIn_of _ (by decide +kernel)) ggX8_isTwice_X8_rankAt
set_option maxRecDepth 20000 in
theorem ggX8_isTwice_X8_rankRead : GoodIn wsX8_isTwice wsX8_rankRead := goodIn_r _ [17, 18, 11, 12, 5, 13, 19, 20, 21, 22, 23, 24, 25, 26, 27, 28, 29, 30, 31, 32, 33, 34, 35, 36, 37, 38, 39, 40, 41, 42, 43] (by decide +kernel) (by decide +kernel)
set_option maxRecDepth 20000 in
theorem gX8_isTwice_X8_rankRead : GoodIn wsX8_isTwice (wsV RX8 165 RX8 yX8_rankRead wsX8_rankRead) := goodIn_app (goodIn_of _ (by decide +kernel)) ggX8_isTwice_X8_rankRead
theorem iX8_isTwice_8 : ∀ w ∈ u_ws RX8 TX8 25, w ∈ wsX8_isTwice := fun w h => List.mem_cons_of_mem _ (List.mem_append_right _ (h))
set_option maxHeartbeats 4000000 in
set_option maxRecDepth 100000 in
theorem w_X8_isTwice_L46 {p : Program} {l : Launch} {e : Env} {s : State} {m : MethodId} {args : Array Value} {below : List Frame} {meth : Method} {c : Code} {E : EE} {g : GG} {ad : Nat → Nat} (hg : gwf g) (X : CallFix p m c cX8_isTwice 4 s args wsX8_isTwice RX8) (K : Kn E s) (hr : meth.sig.returnType = (some .boolean)) (hlk : meth.locks = false) {Q : Int → Mm → Prop} : ∀ (n : Nat) (o0 : Nat) (x1 : Int) (x2 : Int) (x3 : Int) (M : Mm) (H : Heap) (locs : List Loc) (ls : Array Slot), gk g o0 = 8 → Rw E g ad M s.heap H locs → lv_has ls 4 [(0, .ref (ad o0)), (1, cI x1), (2, cI x2), (3, cI x3)] → p_X8_isTwice_L46 g n o0 x1 x2 x3 M Q → W p l e rmX8_isTwice s m args below meth c H locs 0 0 (MQ below (QI E g ad Q) args s 0 0 (Rg g ad)) (F0 m 46 ls []) := by
  intro n
  induction n with
  | zero =>
    intro o0 x1 x2 x3 M H locs ls k_o0 w hl h
    exact absurd h (by unfold p_X8_isTwice_L46; exact id)
  | succ n ih =>
    intro o0 x1 x2 x3 M H locs ls k_o0 w hl h
    unfold p_X8_isTwice_L46 at h
    refine lv_iload_n X.1 X.2.1 dX8_isTwice_46 rfl (lv_at hl 3 rfl) ?_
    refine lv_iload_n X.1 X.2.1 dX8_isTwice_47 rfl (lv_at hl 1 rfl) ?_
    obtain ⟨i0, i1, h1, h2⟩ := h
    refine r_icmp_ge (tgt := 80) X i0 i1 dX8_isTwice_48 (by decide) (fun cc => ?_) (fun cc => ?_)
    · have h := h1 cc
      refine lv_iload_n X.1 X.2.1 dX8_isTwice_80 rfl (lv_at hl 2 rfl) ?_
      exact r_zreturn X hr hlk K w (nz h.1) h.2 dX8_isTwice_81
    · have h := h2 cc
      refine lv_iload_n X.1 X.2.1 dX8_isTwice_51 rfl (lv_at hl 2 rfl) ?_
      obtain ⟨i0, h1, h2⟩ := h
      refine r_if_ne (tgt := 68) X i0 dX8_isTwice_52 (by decide) (fun cc => ?_) (fun cc => ?_)
      · have h := h1 cc
        refine r_iconst X dX8_isTwice_68 ?_
        refine lv_goto (tgt := 73) X.1 X.2.1 dX8_isTwice_69 (by decide) ?_
        refine lv_istore_n (lv' := [(2, cI 1), (0, .ref (ad o0)), (1, cI x1), (3, cI x3)]) X.1 X.2.1 dX8_isTwice_73 rfl hl (by decide) rfl (fun ls hl => ?_)
        refine r_iinc (lv' := [(3, cI (x3 + 1)), (2, cI 1), (0, .ref (ad o0)), (1, cI x1)]) X hl (k := 3) rfl (by decide) dX8_isTwice_74 rfl (fun ls hl => ?_)
        refine lv_goto (tgt := 46) X.1 X.2.1 dX8_isTwice_77 (by decide) ?_
        exact ih o0 x1 1 (x3 + 1) M _ _ _ k_o0 w (lv_sub hl [2, 3, 1, 0] rfl) h
      · have h := h2 cc
        refine lv_aload_n X.1 X.2.1 dX8_isTwice_55 rfl (lv_at hl 0 rfl) ?_
        refine lv_iload_n X.1 X.2.1 dX8_isTwice_56 rfl (lv_at hl 3 rfl) ?_
        refine q_i (x_V (As := [cI x3]) (rest := []) X K w (c_X8_rankRead hg k_o0 h) (cwV 1 X.2.2.2.2 gX8_isTwice_X8_rankRead rfl rfl rfl (by decide +kernel) ⟨Nat.le_of_ble_eq_true rfl, Nat.le_of_ble_eq_true rfl⟩) k_o0 (by decide) rfl rfl hl rfl (Nat.le_of_ble_eq_true rfl) dX8_isTwice_57 ⟨Nat.le_of_ble_eq_true rfl, Nat.le_of_ble_eq_true rfl⟩) w (fun r3 M2 H locs h w => ?_)
        refine lv_aload_n X.1 X.2.1 dX8_isTwice_60 rfl (lv_at hl 0 rfl) ?_
        refine lv_iload_n X.1 X.2.1 dX8_isTwice_61 rfl (lv_at hl 1 rfl) ?_
        refine q_i (x_V (As := [cI x1]) (rest := [cI r3]) X K w (c_X8_rankRead hg k_o0 h) (cwV 1 X.2.2.2.2 gX8_isTwice_X8_rankRead rfl rfl rfl (by decide +kernel) ⟨Nat.le_of_ble_eq_true rfl, Nat.le_of_ble_eq_true rfl⟩) k_o0 (by decide) rfl rfl hl rfl (Nat.le_of_ble_eq_true rfl) dX8_isTwice_62 ⟨Nat.le_of_ble_eq_true rfl, Nat.le_of_ble_eq_true rfl⟩) w (fun r5 M4 H locs h w => ?_)
        obtain ⟨i0, i1, h1, h2⟩ := h
        refine r_icmp_ne (tgt := 72) X i0 i1 dX8_isTwice_65 (by decide) (fun cc => ?_) (fun cc => ?_)
        · have h := h1 cc
          refine r_iconst X dX8_isTwice_72 ?_
          refine lv_istore_n (lv' := [(2, cI 0), (0, .ref (ad o0)), (1, cI x1), (3, cI x3)]) X.1 X.2.1 dX8_isTwice_73 rfl hl (by decide) rfl (fun ls hl => ?_)
          refine r_iinc (lv' := [(3, cI (x3 + 1)), (2, cI 0), (0, .ref (ad o0)), (1, cI x1)]) X hl (k := 3) rfl (by decide) dX8_isTwice_74 rfl (fun ls hl => ?_)
          refine lv_goto (tgt := 46) X.1 X.2.1 dX8_isTwice_77 (by decide) ?_
          exact ih o0 x1 0 (x3 + 1) M4 _ _ _ k_o0 w (lv_sub hl [2, 3, 1, 0] rfl) h
        · have h := h2 cc
          refine r_iconst X dX8_isTwice_68 ?_
          refine lv_goto (tgt := 73) X.1 X.2.1 dX8_isTwice_69 (by decide) ?_
          refine lv_istore_n (lv' := [(2, cI 1), (0, .ref (ad o0)), (1, cI x1), (3, cI x3)]) X.1 X.2.1 dX8_isTwice_73 rfl hl (by decide) rfl (fun ls hl => ?_)
          refine r_iinc (lv' := [(3, cI (x3 + 1)), (2, cI 1), (0, .ref (ad o0)), (1, cI x1)]) X hl (k := 3) rfl (by decide) dX8_isTwice_74 rfl (fun ls hl => ?_)
          refine lv_goto (tgt := 46) X.1 X.2.1 dX8_isTwice_77 (by decide) ?_
          exact ih o0 x1 1 (x3 + 1) M4 _ _ _ k_o0 w (lv_sub hl [2, 3, 1, 0] rfl) h
set_option maxHeartbeats 4000000 in
set_option maxRecDepth 100000 in
theorem w_X8_isTwice_L4 {p : Program} {l : Launch} {e : Env} {s : State} {m : MethodId} {args : Array Value} {below : List Frame} {meth : Method} {c : Code} {E : EE} {g : GG} {ad : Nat → Nat} (hg : gwf g) (X : CallFix p m c cX8_isTwice 4 s args wsX8_isTwice RX8) (K : Kn E s) (hr : meth.sig.returnType = (some .boolean)) (hlk : meth.locks = false) {Q : Int → Mm → Prop} : ∀ (n : Nat) (o0 : Nat) (x1 : Int) (x2 : Int) (x3 : Int) (M : Mm) (H : Heap) (locs : List Loc) (ls : Array Slot), gk g o0 = 8 → Rw E g ad M s.heap H locs → lv_has ls 4 [(0, .ref (ad o0)), (1, cI x1), (2, cI x2), (3, cI x3)] → p_X8_isTwice_L4 g n o0 x1 x2 x3 M Q → W p l e rmX8_isTwice s m args below meth c H locs 0 0 (MQ below (QI E g ad Q) args s 0 0 (Rg g ad)) (F0 m 4 ls []) := by
  intro n
  induction n with
  | zero =>
    intro o0 x1 x2 x3 M H locs ls k_o0 w hl h
    exact absurd h (by unfold p_X8_isTwice_L4; exact id)
  | succ n ih =>
    intro o0 x1 x2 x3 M H locs ls k_o0 w hl h
    unfold p_X8_isTwice_L4 at h
    refine lv_iload_n X.1 X.2.1 dX8_isTwice_4 rfl (lv_at hl 3 rfl) ?_
    refine lv_aload_n X.1 X.2.1 dX8_isTwice_5 rfl (lv_at hl 0 rfl) ?_
    refine r_getr (N := 25) (T := TX8) X K w iX8_isTwice_8 k_o0 rfl (by decide) 0 (by decide) rfl rfl (List.mem_of_getElem? (i := 1) rfl) dX8_isTwice_6 ?_
    have k1 : gk g (o0 + 1) = 9 := gch hg k_o0 (by decide) 0 (by decide) rfl rfl
    refine r_bipush X dX8_isTwice_9 (by decide +kernel) ?_
    obtain ⟨b1, h⟩ := h
    refine r_iald X K w hg k1 (by decide) b1 dX8_isTwice_11 ?_
    obtain ⟨i0, i1, h1, h2⟩ := h
    refine r_icmp_ge (tgt := 44) X i0 i1 dX8_isTwice_12 (by decide) (fun cc => ?_) (fun cc => ?_)
    · have h := h1 cc
      refine r_iconst X dX8_isTwice_44 ?_
      refine lv_istore_n (lv' := [(3, cI 0), (0, .ref (ad o0)), (1, cI x1), (2, cI x2)]) X.1 X.2.1 dX8_isTwice_45 rfl hl (by decide) rfl (fun ls hl => ?_)
      obtain ⟨n6, h⟩ := h
      exact w_X8_isTwice_L46 hg X K hr hlk n6 o0 x1 x2 0 M _ _ _ k_o0 w (lv_sub hl [1, 2, 3, 0] rfl) h
    · have h := h2 cc
      refine lv_iload_n X.1 X.2.1 dX8_isTwice_15 rfl (lv_at hl 2 rfl) ?_
      obtain ⟨i0, h1, h2⟩ := h
      refine r_if_ne (tgt := 32) X i0 dX8_isTwice_16 (by decide) (fun cc => ?_) (fun cc => ?_)
      · have h := h1 cc
        refine r_iconst X dX8_isTwice_32 ?_
        refine lv_goto (tgt := 37) X.1 X.2.1 dX8_isTwice_33 (by decide) ?_
        refine lv_istore_n (lv' := [(2, cI 1), (0, .ref (ad o0)), (1, cI x1), (3, cI x3)]) X.1 X.2.1 dX8_isTwice_37 rfl hl (by decide) rfl (fun ls hl => ?_)
        refine r_iinc (lv' := [(3, cI (x3 + 1)), (2, cI 1), (0, .ref (ad o0)), (1, cI x1)]) X hl (k := 3) rfl (by decide) dX8_isTwice_38 rfl (fun ls hl => ?_)
        refine lv_goto (tgt := 4) X.1 X.2.1 dX8_isTwice_41 (by decide) ?_
        exact ih o0 x1 1 (x3 + 1) M _ _ _ k_o0 w (lv_sub hl [2, 3, 1, 0] rfl) h
      · have h := h2 cc
        refine lv_aload_n X.1 X.2.1 dX8_isTwice_19 rfl (lv_at hl 0 rfl) ?_
        refine lv_iload_n X.1 X.2.1 dX8_isTwice_20 rfl (lv_at hl 3 rfl) ?_
        refine q_i (x_V (As := [cI x3]) (rest := []) X K w (c_X8_rankAt hg k_o0 h) (cwV 1 X.2.2.2.2 gX8_isTwice_X8_rankAt rfl rfl rfl (by decide +kernel) ⟨Nat.le_of_ble_eq_true rfl, Nat.le_of_ble_eq_true rfl⟩) k_o0 (by decide) rfl rfl hl rfl (Nat.le_of_ble_eq_true rfl) dX8_isTwice_21 ⟨Nat.le_of_ble_eq_true rfl, Nat.le_of_ble_eq_true rfl⟩) w (fun r8 M7 H locs h w => ?_)
        refine lv_aload_n X.1 X.2.1 dX8_isTwice_24 rfl (lv_at hl 0 rfl) ?_
        refine lv_iload_n X.1 X.2.1 dX8_isTwice_25 rfl (lv_at hl 1 rfl) ?_
        refine q_i (x_V (As := [cI x1]) (rest := [cI r8]) X K w (c_X8_rankRead hg k_o0 h) (cwV 1 X.2.2.2.2 gX8_isTwice_X8_rankRead rfl rfl rfl (by decide +kernel) ⟨Nat.le_of_ble_eq_true rfl, Nat.le_of_ble_eq_true rfl⟩) k_o0 (by decide) rfl rfl hl rfl (Nat.le_of_ble_eq_true rfl) dX8_isTwice_26 ⟨Nat.le_of_ble_eq_true rfl, Nat.le_of_ble_eq_true rfl⟩) w (fun r10 M9 H locs h w => ?_)
        obtain ⟨i0, i1, h1, h2⟩ := h
        refine r_icmp_ne (tgt := 36) X i0 i1 dX8_isTwice_29 (by decide) (fun cc => ?_) (fun cc => ?_)
        · have h := h1 cc
          refine r_iconst X dX8_isTwice_36 ?_
          refine lv_istore_n (lv' := [(2, cI 0), (0, .ref (ad o0)), (1, cI x1), (3, cI x3)]) X.1 X.2.1 dX8_isTwice_37 rfl hl (by decide) rfl (fun ls hl => ?_)
          refine r_iinc (lv' := [(3, cI (x3 + 1)), (2, cI 0), (0, .ref (ad o0)), (1, cI x1)]) X hl (k := 3) rfl (by decide) dX8_isTwice_38 rfl (fun ls hl => ?_)
          refine lv_goto (tgt := 4) X.1 X.2.1 dX8_isTwice_41 (by decide) ?_
          exact ih o0 x1 0 (x3 + 1) M9 _ _ _ k_o0 w (lv_sub hl [2, 3, 1, 0] rfl) h
        · have h := h2 cc
          refine r_iconst X dX8_isTwice_32 ?_
          refine lv_goto (tgt := 37) X.1 X.2.1 dX8_isTwice_33 (by decide) ?_
          refine lv_istore_n (lv' := [(2, cI 1), (0, .ref (ad o0)), (1, cI x1), (3, cI x3)]) X.1 X.2.1 dX8_isTwice_37 rfl hl (by decide) rfl (fun ls hl => ?_)
          refine r_iinc (lv' := [(3, cI (x3 + 1)), (2, cI 1), (0, .ref (ad o0)), (1, cI x1)]) X hl (k := 3) rfl (by decide) dX8_isTwice_38 rfl (fun ls hl => ?_)
          refine lv_goto (tgt := 4) X.1 X.2.1 dX8_isTwice_41 (by decide) ?_
          exact ih o0 x1 1 (x3 + 1) M9 _ _ _ k_o0 w (lv_sub hl [2, 3, 1, 0] rfl) h
set_option maxHeartbeats 4000000 in
set_option maxRecDepth 100000 in
theorem c_X8_isTwice {E : EE} {l : Launch} {g : GG} {ad : Nat → Nat} (hg : gwf g) {o0 : Nat} {x1 : Int} {M : Mm} {Q : Int → Mm → Prop} (k_o0 : gk g o0 = 8) (h : p_X8_isTwice g o0 x1 M Q) : Ct E l yX8_isTwice wsX8_isTwice rmX8_isTwice g ad [.ref (ad o0), cI x1] M (QI E g ad Q) := by
  refine ent (cc := cX8_isTwice) (maxL := 4) (ret := (some .boolean)) (own := RX8) (by decide +kernel) rfl rfl (Nat.le_of_ble_eq_true rfl) ?_
  intro p e s m below meth c ls X hr hlk K w hl
  have hl : lv_has ls 4 [(0, .ref (ad o0)), (1, cI x1)] := hl
  unfold p_X8_isTwice at h
  refine r_iconst X dX8_isTwice_0 ?_
  refine lv_istore_n (lv' := [(2, cI 0), (0, .ref (ad o0)), (1, cI x1)]) X.1 X.2.1 dX8_isTwice_1 rfl hl (by decide) rfl (fun ls hl => ?_)
  refine r_iconst X dX8_isTwice_2 ?_
  refine lv_istore_n (lv' := [(3, cI 0), (2, cI 0), (0, .ref (ad o0)), (1, cI x1)]) X.1 X.2.1 dX8_isTwice_3 rfl hl (by decide) rfl (fun ls hl => ?_)
  obtain ⟨n11, h⟩ := h
  exact w_X8_isTwice_L4 hg X K hr hlk n11 o0 x1 0 0 M _ _ _ k_o0 w (lv_sub hl [2, 3, 1, 0] rfl) h
theorem dX8_readCues_0 : decode cX8_readCues 0 = .ok (.aload_n 0, 1) := by decide +kernel
theorem dX8_readCues_1 : decode cX8_readCues 1 = .ok (.invokevirtual 168, 3) := by decide +kernel
theorem dX8_readCues_4 : decode cX8_readCues 4 = .ok (.istore_n 1, 1) := by decide +kernel
theorem dX8_readCues_5 : decode cX8_readCues 5 = .ok (.iload_n 1, 1) := by decide +kernel
theorem dX8_readCues_6 : decode cX8_readCues 6 = .ok (.bipush (-5), 2) := by decide +kernel
theorem dX8_readCues_8 : decode cX8_readCues 8 = .ok (.if_icmp .eq 8, 3) := by decide +kernel
theorem dX8_readCues_11 : decode cX8_readCues 11 = .ok (.bipush (-100), 2) := by decide +kernel
theorem dX8_readCues_13 : decode cX8_readCues 13 = .ok (.iload_n 1, 1) := by decide +kernel
theorem dX8_readCues_14 : decode cX8_readCues 14 = .ok (.isub, 1) := by decide +kernel
theorem dX8_readCues_15 : decode cX8_readCues 15 = .ok (.ireturn, 1) := by decide +kernel
theorem dX8_readCues_16 : decode cX8_readCues 16 = .ok (.iconst 0, 1) := by decide +kernel
theorem dX8_readCues_17 : decode cX8_readCues 17 = .ok (.istore_n 2, 1) := by decide +kernel
theorem dX8_readCues_18 : decode cX8_readCues 18 = .ok (.iload_n 2, 1) := by decide +kernel
theorem dX8_readCues_19 : decode cX8_readCues 19 = .ok (.aload_n 0, 1) := by decide +kernel
theorem dX8_readCues_20 : decode cX8_readCues 20 = .ok (.getfield 152, 3) := by decide +kernel
theorem dX8_readCues_23 : decode cX8_readCues 23 = .ok (.if_icmp .ge 20, 3) := by decide +kernel
theorem dX8_readCues_26 : decode cX8_readCues 26 = .ok (.aload_n 0, 1) := by decide +kernel
theorem dX8_readCues_27 : decode cX8_readCues 27 = .ok (.iload_n 2, 1) := by decide +kernel
theorem dX8_readCues_28 : decode cX8_readCues 28 = .ok (.invokevirtual 172, 3) := by decide +kernel
theorem dX8_readCues_31 : decode cX8_readCues 31 = .ok (.ifCond .eq 6, 3) := by decide +kernel
theorem dX8_readCues_34 : decode cX8_readCues 34 = .ok (.bipush (-4), 2) := by decide +kernel
theorem dX8_readCues_36 : decode cX8_readCues 36 = .ok (.ireturn, 1) := by decide +kernel
theorem dX8_readCues_37 : decode cX8_readCues 37 = .ok (.iinc 2 1, 3) := by decide +kernel
theorem dX8_readCues_40 : decode cX8_readCues 40 = .ok (.goto (-22), 3) := by decide +kernel
theorem dX8_readCues_43 : decode cX8_readCues 43 = .ok (.aload_n 0, 1) := by decide +kernel
theorem dX8_readCues_44 : decode cX8_readCues 44 = .ok (.getfield 7, 3) := by decide +kernel
theorem dX8_readCues_47 : decode cX8_readCues 47 = .ok (.bipush 36, 2) := by decide +kernel
theorem dX8_readCues_49 : decode cX8_readCues 49 = .ok (.iaload, 1) := by decide +kernel
theorem dX8_readCues_50 : decode cX8_readCues 50 = .ok (.aload_n 0, 1) := by decide +kernel
theorem dX8_readCues_51 : decode cX8_readCues 51 = .ok (.getfield 152, 3) := by decide +kernel
theorem dX8_readCues_54 : decode cX8_readCues 54 = .ok (.iadd, 1) := by decide +kernel
theorem dX8_readCues_55 : decode cX8_readCues 55 = .ok (.bipush 40, 2) := by decide +kernel
theorem dX8_readCues_57 : decode cX8_readCues 57 = .ok (.if_icmp .le 6, 3) := by decide +kernel
theorem dX8_readCues_60 : decode cX8_readCues 60 = .ok (.bipush (-3), 2) := by decide +kernel
theorem dX8_readCues_62 : decode cX8_readCues 62 = .ok (.ireturn, 1) := by decide +kernel
theorem dX8_readCues_63 : decode cX8_readCues 63 = .ok (.aload_n 0, 1) := by decide +kernel
theorem dX8_readCues_64 : decode cX8_readCues 64 = .ok (.invokevirtual 116, 3) := by decide +kernel
theorem dX8_readCues_67 : decode cX8_readCues 67 = .ok (.iconst 0, 1) := by decide +kernel
theorem dX8_readCues_68 : decode cX8_readCues 68 = .ok (.istore_n 2, 1) := by decide +kernel
theorem dX8_readCues_69 : decode cX8_readCues 69 = .ok (.iload_n 2, 1) := by decide +kernel
theorem dX8_readCues_70 : decode cX8_readCues 70 = .ok (.aload_n 0, 1) := by decide +kernel
theorem dX8_readCues_71 : decode cX8_readCues 71 = .ok (.getfield 152, 3) := by decide +kernel
theorem dX8_readCues_74 : decode cX8_readCues 74 = .ok (.if_icmp .ge 51, 3) := by decide +kernel
theorem dX8_readCues_77 : decode cX8_readCues 77 = .ok (.aload_n 0, 1) := by decide +kernel
theorem dX8_readCues_78 : decode cX8_readCues 78 = .ok (.aload_n 0, 1) := by decide +kernel
theorem dX8_readCues_79 : decode cX8_readCues 79 = .ok (.getfield 58, 3) := by decide +kernel
theorem dX8_readCues_82 : decode cX8_readCues 82 = .ok (.iconst 4, 1) := by decide +kernel
theorem dX8_readCues_83 : decode cX8_readCues 83 = .ok (.iload_n 2, 1) := by decide +kernel
theorem dX8_readCues_84 : decode cX8_readCues 84 = .ok (.imul, 1) := by decide +kernel
theorem dX8_readCues_85 : decode cX8_readCues 85 = .ok (.iaload, 1) := by decide +kernel
theorem dX8_readCues_86 : decode cX8_readCues 86 = .ok (.aload_n 0, 1) := by decide +kernel
theorem dX8_readCues_87 : decode cX8_readCues 87 = .ok (.getfield 58, 3) := by decide +kernel
theorem dX8_readCues_90 : decode cX8_readCues 90 = .ok (.iconst 4, 1) := by decide +kernel
theorem dX8_readCues_91 : decode cX8_readCues 91 = .ok (.iload_n 2, 1) := by decide +kernel
theorem dX8_readCues_92 : decode cX8_readCues 92 = .ok (.imul, 1) := by decide +kernel
theorem dX8_readCues_93 : decode cX8_readCues 93 = .ok (.iconst 1, 1) := by decide +kernel
theorem dX8_readCues_94 : decode cX8_readCues 94 = .ok (.iadd, 1) := by decide +kernel
theorem dX8_readCues_95 : decode cX8_readCues 95 = .ok (.iaload, 1) := by decide +kernel
theorem dX8_readCues_96 : decode cX8_readCues 96 = .ok (.aload_n 0, 1) := by decide +kernel
theorem dX8_readCues_97 : decode cX8_readCues 97 = .ok (.getfield 58, 3) := by decide +kernel
theorem dX8_readCues_100 : decode cX8_readCues 100 = .ok (.iconst 4, 1) := by decide +kernel
theorem dX8_readCues_101 : decode cX8_readCues 101 = .ok (.iload_n 2, 1) := by decide +kernel
theorem dX8_readCues_102 : decode cX8_readCues 102 = .ok (.imul, 1) := by decide +kernel
theorem dX8_readCues_103 : decode cX8_readCues 103 = .ok (.iconst 2, 1) := by decide +kernel
theorem dX8_readCues_104 : decode cX8_readCues 104 = .ok (.iadd, 1) := by decide +kernel
theorem dX8_readCues_105 : decode cX8_readCues 105 = .ok (.iaload, 1) := by decide +kernel
theorem dX8_readCues_106 : decode cX8_readCues 106 = .ok (.aload_n 0, 1) := by decide +kernel
theorem dX8_readCues_107 : decode cX8_readCues 107 = .ok (.getfield 58, 3) := by decide +kernel
theorem dX8_readCues_110 : decode cX8_readCues 110 = .ok (.iconst 4, 1) := by decide +kernel
theorem dX8_readCues_111 : decode cX8_readCues 111 = .ok (.iload_n 2, 1) := by decide +kernel
theorem dX8_readCues_112 : decode cX8_readCues 112 = .ok (.imul, 1) := by decide +kernel
theorem dX8_readCues_113 : decode cX8_readCues 113 = .ok (.iconst 3, 1) := by decide +kernel
theorem dX8_readCues_114 : decode cX8_readCues 114 = .ok (.iadd, 1) := by decide +kernel
theorem dX8_readCues_115 : decode cX8_readCues 115 = .ok (.iaload, 1) := by decide +kernel
theorem dX8_readCues_116 : decode cX8_readCues 116 = .ok (.invokevirtual 175, 3) := by decide +kernel
theorem dX8_readCues_119 : decode cX8_readCues 119 = .ok (.iinc 2 1, 3) := by decide +kernel
theorem dX8_readCues_122 : decode cX8_readCues 122 = .ok (.goto (-53), 3) := by decide +kernel
theorem dX8_readCues_125 : decode cX8_readCues 125 = .ok (.aload_n 0, 1) := by decide +kernel
theorem dX8_readCues_126 : decode cX8_readCues 126 = .ok (.aload_n 0, 1) := by decide +kernel
theorem dX8_readCues_127 : decode cX8_readCues 127 = .ok (.getfield 7, 3) := by decide +kernel
theorem dX8_readCues_130 : decode cX8_readCues 130 = .ok (.bipush 36, 2) := by decide +kernel
theorem dX8_readCues_132 : decode cX8_readCues 132 = .ok (.iaload, 1) := by decide +kernel
theorem dX8_readCues_133 : decode cX8_readCues 133 = .ok (.invokevirtual 119, 3) := by decide +kernel
theorem dX8_readCues_136 : decode cX8_readCues 136 = .ok (.ireturn, 1) := by decide +kernel
set_option maxRecDepth 20000 in
theorem ggX8_readCues_X8_acted : GoodIn wsX8_readCues wsX8_acted := goodIn_r _ [66, 67, 68, 55, 69, 70, 71, 72, 73, 74, 75, 76, 77, 78, 79, 80, 81, 82, 83, 84, 85, 86, 87, 88, 89, 90, 91, 92, 93] (by decide +kernel) (by decide +kernel)
set_option maxRecDepth 20000 in
theorem gX8_readCues_X8_acted : GoodIn wsX8_readCues (wsV RX8 119 RX8 yX8_acted wsX8_acted) := goodIn_app (goodIn_of _ (by decide +kernel)) ggX8_readCues_X8_acted
set_option maxRecDepth 20000 in
theorem ggX8_readCues_X8_fault : GoodIn wsX8_readCues wsX8_fault := goodIn_r _ [8, 9, 1, 10, 11, 12, 13, 7, 14, 3, 15, 16, 17, 18, 19, 20, 21, 22, 23, 24, 25, 26, 27, 28, 29, 30, 31, 69, 70, 71, 72, 73, 74, 75, 76, 77, 78, 79, 80, 81, 82, 83, 84, 85, 86, 87, 88, 89, 90, 91, 92, 93] (by decide +kernel) (by decide +kernel)
set_option maxRecDepth 20000 in
theorem gX8_readCues_X8_fault : GoodIn wsX8_readCues (wsV RX8 168 RX8 yX8_fault wsX8_fault) := goodIn_app (goodIn_of _ (by decide +kernel)) ggX8_readCues_X8_fault
set_option maxRecDepth 20000 in
theorem ggX8_readCues_X8_isTwice : GoodIn wsX8_readCues wsX8_isTwice := goodIn_r _ [35, 2, 36, 37, 38, 7, 39, 40, 41, 42, 43, 44, 45, 46, 47, 48, 49, 50, 3, 69, 70, 71, 72, 73, 74, 75, 76, 77, 78, 79, 80, 81, 82, 83, 84, 85, 86, 87, 88, 89, 90, 91, 92, 93] (by decide +kernel) (by decide +kernel)
set_option maxRecDepth 20000 in
theorem gX8_readCues_X8_isTwice : GoodIn wsX8_readCues (wsV RX8 172 RX8 yX8_isTwice wsX8_isTwice) := goodIn_app (goodIn_of _ (by decide +kernel)) ggX8_readCues_X8_isTwice
set_option maxRecDepth 20000 in
theorem ggX8_readCues_X8_putsIn : GoodIn wsX8_readCues wsX8_putsIn := goodIn_r _ [62, 2, 36, 37, 38, 7, 39, 40, 41, 42, 43, 44, 45, 46, 69, 70, 71, 72, 73, 74, 75, 76, 77, 78, 79, 80, 81, 82, 83, 84, 85, 86, 87, 88, 89, 90, 91, 92, 93] (by decide +kernel) (by decide +kernel)
set_option maxRecDepth 20000 in
theorem gX8_readCues_X8_putsIn : GoodIn wsX8_readCues (wsV RX8 175 RX8 yX8_putsIn wsX8_putsIn) := goodIn_app (goodIn_of _ (by decide +kernel)) ggX8_readCues_X8_putsIn
set_option maxRecDepth 20000 in
theorem ggX8_readCues_X8_remember : GoodIn wsX8_readCues wsX8_remember := goodIn_r _ [54, 2, 55, 56, 57, 7, 58, 69, 70, 71, 72, 73, 74, 75, 76, 77, 78, 79, 80, 81, 82, 83, 84, 85, 86, 87, 88, 89, 90, 91, 92, 93] (by decide +kernel) (by decide +kernel)
set_option maxRecDepth 20000 in
theorem gX8_readCues_X8_remember : GoodIn wsX8_readCues (wsV RX8 116 RX8 yX8_remember wsX8_remember) := goodIn_app (goodIn_of _ (by decide +kernel)) ggX8_readCues_X8_remember
theorem iX8_readCues_8 : ∀ w ∈ u_ws RX8 TX8 25, w ∈ wsX8_readCues := fun w h => List.mem_cons_of_mem _ (List.mem_append_right _ (h))
set_option maxHeartbeats 4000000 in
set_option maxRecDepth 100000 in
theorem w_X8_readCues_L69 {p : Program} {l : Launch} {e : Env} {s : State} {m : MethodId} {args : Array Value} {below : List Frame} {meth : Method} {c : Code} {E : EE} {g : GG} {ad : Nat → Nat} (hg : gwf g) (X : CallFix p m c cX8_readCues 3 s args wsX8_readCues RX8) (K : Kn E s) (hr : meth.sig.returnType = (some .int)) (hlk : meth.locks = false) {Q : Int → Mm → Prop} : ∀ (n : Nat) (o0 : Nat) (x2 : Int) (M : Mm) (H : Heap) (locs : List Loc) (ls : Array Slot), gk g o0 = 8 → Rw E g ad M s.heap H locs → lv_has ls 3 [(0, .ref (ad o0)), (2, cI x2)] → p_X8_readCues_L69 g n o0 x2 M Q → W p l e rmX8_readCues s m args below meth c H locs 0 0 (MQ below (QI E g ad Q) args s 0 0 (Rg g ad)) (F0 m 69 ls []) := by
  intro n
  induction n with
  | zero =>
    intro o0 x2 M H locs ls k_o0 w hl h
    exact absurd h (by unfold p_X8_readCues_L69; exact id)
  | succ n ih =>
    intro o0 x2 M H locs ls k_o0 w hl h
    unfold p_X8_readCues_L69 at h
    refine lv_iload_n X.1 X.2.1 dX8_readCues_69 rfl (lv_at hl 1 rfl) ?_
    refine lv_aload_n X.1 X.2.1 dX8_readCues_70 rfl (lv_at hl 0 rfl) ?_
    refine r_geti (N := 25) (T := TX8) (kz := 24) X K w iX8_readCues_8 k_o0 rfl (by decide) 24 (by decide) rfl rfl rfl (List.mem_of_getElem? (i := 1) rfl) dX8_readCues_71 ?_
    obtain ⟨i0, i1, h1, h2⟩ := h
    refine r_icmp_ge (tgt := 125) X i0 i1 dX8_readCues_74 (by decide) (fun cc => ?_) (fun cc => ?_)
    · have h := h1 cc
      refine lv_aload_n X.1 X.2.1 dX8_readCues_125 rfl (lv_at hl 0 rfl) ?_
      refine lv_aload_n X.1 X.2.1 dX8_readCues_126 rfl (lv_at hl 0 rfl) ?_
      refine r_getr (N := 25) (T := TX8) X K w iX8_readCues_8 k_o0 rfl (by decide) 0 (by decide) rfl rfl (List.mem_of_getElem? (i := 2) rfl) dX8_readCues_127 ?_
      have k5 : gk g (o0 + 1) = 9 := gch hg k_o0 (by decide) 0 (by decide) rfl rfl
      refine r_bipush X dX8_readCues_130 (by decide +kernel) ?_
      obtain ⟨b1, h⟩ := h
      refine r_iald X K w hg k5 (by decide) b1 dX8_readCues_132 ?_
      refine q_i (x_V (As := [cI (M (o0 + 1) 36)]) (rest := []) X K w (c_X8_acted hg k_o0 h) (cwV 1 X.2.2.2.2 gX8_readCues_X8_acted rfl rfl rfl (by decide +kernel) ⟨Nat.le_of_ble_eq_true rfl, Nat.le_of_ble_eq_true rfl⟩) k_o0 (by decide) rfl rfl hl rfl (Nat.le_of_ble_eq_true rfl) dX8_readCues_133 ⟨Nat.le_of_ble_eq_true rfl, Nat.le_of_ble_eq_true rfl⟩) w (fun r7 M6 H locs h w => ?_)
      exact r_ireturn X hr hlk K w h dX8_readCues_136
    · have h := h2 cc
      refine lv_aload_n X.1 X.2.1 dX8_readCues_77 rfl (lv_at hl 0 rfl) ?_
      refine lv_aload_n X.1 X.2.1 dX8_readCues_78 rfl (lv_at hl 0 rfl) ?_
      refine r_getr (N := 25) (T := TX8) X K w iX8_readCues_8 k_o0 rfl (by decide) 23 (by decide) rfl rfl (List.mem_of_getElem? (i := 3) rfl) dX8_readCues_79 ?_
      have k8 : gk g (o0 + 17) = 9 := gch hg k_o0 (by decide) 23 (by decide) rfl rfl
      refine r_iconst X dX8_readCues_82 ?_
      refine lv_iload_n X.1 X.2.1 dX8_readCues_83 rfl (lv_at hl 1 rfl) ?_
      refine r_imul X dX8_readCues_84 ?_
      obtain ⟨b0, b1, h⟩ := h
      refine r_iald X K w hg k8 b0 b1 dX8_readCues_85 ?_
      refine lv_aload_n X.1 X.2.1 dX8_readCues_86 rfl (lv_at hl 0 rfl) ?_
      refine r_getr (N := 25) (T := TX8) X K w iX8_readCues_8 k_o0 rfl (by decide) 23 (by decide) rfl rfl (List.mem_of_getElem? (i := 3) rfl) dX8_readCues_87 ?_
      have k9 : gk g (o0 + 17) = 9 := gch hg k_o0 (by decide) 23 (by decide) rfl rfl
      refine r_iconst X dX8_readCues_90 ?_
      refine lv_iload_n X.1 X.2.1 dX8_readCues_91 rfl (lv_at hl 1 rfl) ?_
      refine r_imul X dX8_readCues_92 ?_
      refine r_iconst X dX8_readCues_93 ?_
      refine r_iadd X dX8_readCues_94 ?_
      obtain ⟨b0, b1, h⟩ := h
      refine r_iald X K w hg k9 b0 b1 dX8_readCues_95 ?_
      refine lv_aload_n X.1 X.2.1 dX8_readCues_96 rfl (lv_at hl 0 rfl) ?_
      refine r_getr (N := 25) (T := TX8) X K w iX8_readCues_8 k_o0 rfl (by decide) 23 (by decide) rfl rfl (List.mem_of_getElem? (i := 3) rfl) dX8_readCues_97 ?_
      have k10 : gk g (o0 + 17) = 9 := gch hg k_o0 (by decide) 23 (by decide) rfl rfl
      refine r_iconst X dX8_readCues_100 ?_
      refine lv_iload_n X.1 X.2.1 dX8_readCues_101 rfl (lv_at hl 1 rfl) ?_
      refine r_imul X dX8_readCues_102 ?_
      refine r_iconst X dX8_readCues_103 ?_
      refine r_iadd X dX8_readCues_104 ?_
      obtain ⟨b0, b1, h⟩ := h
      refine r_iald X K w hg k10 b0 b1 dX8_readCues_105 ?_
      refine lv_aload_n X.1 X.2.1 dX8_readCues_106 rfl (lv_at hl 0 rfl) ?_
      refine r_getr (N := 25) (T := TX8) X K w iX8_readCues_8 k_o0 rfl (by decide) 23 (by decide) rfl rfl (List.mem_of_getElem? (i := 3) rfl) dX8_readCues_107 ?_
      have k11 : gk g (o0 + 17) = 9 := gch hg k_o0 (by decide) 23 (by decide) rfl rfl
      refine r_iconst X dX8_readCues_110 ?_
      refine lv_iload_n X.1 X.2.1 dX8_readCues_111 rfl (lv_at hl 1 rfl) ?_
      refine r_imul X dX8_readCues_112 ?_
      refine r_iconst X dX8_readCues_113 ?_
      refine r_iadd X dX8_readCues_114 ?_
      obtain ⟨b0, b1, h⟩ := h
      refine r_iald X K w hg k11 b0 b1 dX8_readCues_115 ?_
      refine q_v (x_V (As := [cI (M (o0 + 17) (4 * x2)), cI (M (o0 + 17) ((4 * x2) + 1)), cI (M (o0 + 17) ((4 * x2) + 2)), cI (M (o0 + 17) ((4 * x2) + 3))]) (rest := []) X K w (c_X8_putsIn hg k_o0 h) (cwV 4 X.2.2.2.2 gX8_readCues_X8_putsIn rfl rfl rfl (by decide +kernel) ⟨Nat.le_of_ble_eq_true rfl, Nat.le_of_ble_eq_true rfl⟩) k_o0 (by decide) rfl rfl hl rfl (Nat.le_of_ble_eq_true rfl) dX8_readCues_116 ⟨Nat.le_of_ble_eq_true rfl, Nat.le_of_ble_eq_true rfl⟩) w (fun M12 H locs h w => ?_)
      refine r_iinc (lv' := [(2, cI (x2 + 1)), (0, .ref (ad o0))]) X hl (k := 1) rfl (by decide) dX8_readCues_119 rfl (fun ls hl => ?_)
      refine lv_goto (tgt := 69) X.1 X.2.1 dX8_readCues_122 (by decide) ?_
      exact ih o0 (x2 + 1) M12 _ _ _ k_o0 w (lv_sub hl [1, 0] rfl) h
set_option maxHeartbeats 4000000 in
set_option maxRecDepth 100000 in
theorem w_X8_readCues_L18 {p : Program} {l : Launch} {e : Env} {s : State} {m : MethodId} {args : Array Value} {below : List Frame} {meth : Method} {c : Code} {E : EE} {g : GG} {ad : Nat → Nat} (hg : gwf g) (X : CallFix p m c cX8_readCues 3 s args wsX8_readCues RX8) (K : Kn E s) (hr : meth.sig.returnType = (some .int)) (hlk : meth.locks = false) {Q : Int → Mm → Prop} : ∀ (n : Nat) (o0 : Nat) (x2 : Int) (M : Mm) (H : Heap) (locs : List Loc) (ls : Array Slot), gk g o0 = 8 → Rw E g ad M s.heap H locs → lv_has ls 3 [(0, .ref (ad o0)), (2, cI x2)] → p_X8_readCues_L18 g n o0 x2 M Q → W p l e rmX8_readCues s m args below meth c H locs 0 0 (MQ below (QI E g ad Q) args s 0 0 (Rg g ad)) (F0 m 18 ls []) := by
  intro n
  induction n with
  | zero =>
    intro o0 x2 M H locs ls k_o0 w hl h
    exact absurd h (by unfold p_X8_readCues_L18; exact id)
  | succ n ih =>
    intro o0 x2 M H locs ls k_o0 w hl h
    unfold p_X8_readCues_L18 at h
    refine lv_iload_n X.1 X.2.1 dX8_readCues_18 rfl (lv_at hl 1 rfl) ?_
    refine lv_aload_n X.1 X.2.1 dX8_readCues_19 rfl (lv_at hl 0 rfl) ?_
    refine r_geti (N := 25) (T := TX8) (kz := 24) X K w iX8_readCues_8 k_o0 rfl (by decide) 24 (by decide) rfl rfl rfl (List.mem_of_getElem? (i := 1) rfl) dX8_readCues_20 ?_
    obtain ⟨i0, i1, h1, h2⟩ := h
    refine r_icmp_ge (tgt := 43) X i0 i1 dX8_readCues_23 (by decide) (fun cc => ?_) (fun cc => ?_)
    · have h := h1 cc
      refine lv_aload_n X.1 X.2.1 dX8_readCues_43 rfl (lv_at hl 0 rfl) ?_
      refine r_getr (N := 25) (T := TX8) X K w iX8_readCues_8 k_o0 rfl (by decide) 0 (by decide) rfl rfl (List.mem_of_getElem? (i := 2) rfl) dX8_readCues_44 ?_
      have k3 : gk g (o0 + 1) = 9 := gch hg k_o0 (by decide) 0 (by decide) rfl rfl
      refine r_bipush X dX8_readCues_47 (by decide +kernel) ?_
      obtain ⟨b1, h⟩ := h
      refine r_iald X K w hg k3 (by decide) b1 dX8_readCues_49 ?_
      refine lv_aload_n X.1 X.2.1 dX8_readCues_50 rfl (lv_at hl 0 rfl) ?_
      refine r_geti (N := 25) (T := TX8) (kz := 24) X K w iX8_readCues_8 k_o0 rfl (by decide) 24 (by decide) rfl rfl rfl (List.mem_of_getElem? (i := 1) rfl) dX8_readCues_51 ?_
      refine r_iadd X dX8_readCues_54 ?_
      refine r_bipush X dX8_readCues_55 (by decide +kernel) ?_
      obtain ⟨i0, h1, h2⟩ := h
      refine r_icmp_le (tgt := 63) X i0 ⟨by decide, by decide⟩ dX8_readCues_57 (by decide) (fun cc => ?_) (fun cc => ?_)
      · have h := h1 cc
        refine lv_aload_n X.1 X.2.1 dX8_readCues_63 rfl (lv_at hl 0 rfl) ?_
        refine q_v (x_V (As := []) (rest := []) X K w (c_X8_remember hg k_o0 h) (cwV 0 X.2.2.2.2 gX8_readCues_X8_remember rfl rfl rfl (by decide +kernel) ⟨Nat.le_of_ble_eq_true rfl, Nat.le_of_ble_eq_true rfl⟩) k_o0 (by decide) rfl rfl hl rfl (Nat.le_of_ble_eq_true rfl) dX8_readCues_64 ⟨Nat.le_of_ble_eq_true rfl, Nat.le_of_ble_eq_true rfl⟩) w (fun M4 H locs h w => ?_)
        refine r_iconst X dX8_readCues_67 ?_
        refine lv_istore_n (lv' := [(2, cI 0), (0, .ref (ad o0))]) X.1 X.2.1 dX8_readCues_68 rfl hl (by decide) rfl (fun ls hl => ?_)
        obtain ⟨n13, h⟩ := h
        exact w_X8_readCues_L69 hg X K hr hlk n13 o0 0 M4 _ _ _ k_o0 w (lv_sub hl [1, 0] rfl) h
      · have h := h2 cc
        refine r_bipush X dX8_readCues_60 (by decide +kernel) ?_
        exact r_ireturn X hr hlk K w h dX8_readCues_62
    · have h := h2 cc
      refine lv_aload_n X.1 X.2.1 dX8_readCues_26 rfl (lv_at hl 0 rfl) ?_
      refine lv_iload_n X.1 X.2.1 dX8_readCues_27 rfl (lv_at hl 1 rfl) ?_
      refine q_i (x_V (As := [cI x2]) (rest := []) X K w (c_X8_isTwice hg k_o0 h) (cwV 1 X.2.2.2.2 gX8_readCues_X8_isTwice rfl rfl rfl (by decide +kernel) ⟨Nat.le_of_ble_eq_true rfl, Nat.le_of_ble_eq_true rfl⟩) k_o0 (by decide) rfl rfl hl rfl (Nat.le_of_ble_eq_true rfl) dX8_readCues_28 ⟨Nat.le_of_ble_eq_true rfl, Nat.le_of_ble_eq_true rfl⟩) w (fun r15 M14 H locs h w => ?_)
      obtain ⟨i0, h1, h2⟩ := h
      refine r_if_eq (tgt := 37) X i0 dX8_readCues_31 (by decide) (fun cc => ?_) (fun cc => ?_)
      · have h := h1 cc
        refine r_iinc (lv' := [(2, cI (x2 + 1)), (0, .ref (ad o0))]) X hl (k := 1) rfl (by decide) dX8_readCues_37 rfl (fun ls hl => ?_)
        refine lv_goto (tgt := 18) X.1 X.2.1 dX8_readCues_40 (by decide) ?_
        exact ih o0 (x2 + 1) M14 _ _ _ k_o0 w (lv_sub hl [1, 0] rfl) h
      · have h := h2 cc
        refine r_bipush X dX8_readCues_34 (by decide +kernel) ?_
        exact r_ireturn X hr hlk K w h dX8_readCues_36
set_option maxHeartbeats 4000000 in
set_option maxRecDepth 100000 in
theorem c_X8_readCues {E : EE} {l : Launch} {g : GG} {ad : Nat → Nat} (hg : gwf g) {o0 : Nat} {M : Mm} {Q : Int → Mm → Prop} (k_o0 : gk g o0 = 8) (h : p_X8_readCues g o0 M Q) : Ct E l yX8_readCues wsX8_readCues rmX8_readCues g ad [.ref (ad o0)] M (QI E g ad Q) := by
  refine ent (cc := cX8_readCues) (maxL := 3) (ret := (some .int)) (own := RX8) (by decide +kernel) rfl rfl (Nat.le_of_ble_eq_true rfl) ?_
  intro p e s m below meth c ls X hr hlk K w hl
  have hl : lv_has ls 3 [(0, .ref (ad o0))] := hl
  unfold p_X8_readCues at h
  refine lv_aload_n X.1 X.2.1 dX8_readCues_0 rfl (lv_at hl 0 rfl) ?_
  refine q_i (x_V (As := []) (rest := []) X K w (c_X8_fault hg k_o0 h) (cwV 0 X.2.2.2.2 gX8_readCues_X8_fault rfl rfl rfl (by decide +kernel) ⟨Nat.le_of_ble_eq_true rfl, Nat.le_of_ble_eq_true rfl⟩) k_o0 (by decide) rfl rfl hl rfl (Nat.le_of_ble_eq_true rfl) dX8_readCues_1 ⟨Nat.le_of_ble_eq_true rfl, Nat.le_of_ble_eq_true rfl⟩) w (fun r2 M1 H locs h w => ?_)
  refine lv_istore_n (lv' := [(1, cI r2), (0, .ref (ad o0))]) X.1 X.2.1 dX8_readCues_4 rfl hl (by decide) rfl (fun ls hl => ?_)
  refine lv_iload_n X.1 X.2.1 dX8_readCues_5 rfl (lv_at hl 0 rfl) ?_
  refine r_bipush X dX8_readCues_6 (by decide +kernel) ?_
  obtain ⟨i0, h1, h2⟩ := h
  refine r_icmp_eq (tgt := 16) X i0 ⟨by decide, by decide⟩ dX8_readCues_8 (by decide) (fun cc => ?_) (fun cc => ?_)
  · have h := h1 cc
    refine r_iconst X dX8_readCues_16 ?_
    refine lv_istore_n (lv' := [(2, cI 0), (1, cI r2), (0, .ref (ad o0))]) X.1 X.2.1 dX8_readCues_17 rfl hl (by decide) rfl (fun ls hl => ?_)
    obtain ⟨n16, h⟩ := h
    exact w_X8_readCues_L18 hg X K hr hlk n16 o0 0 M1 _ _ _ k_o0 w (lv_sub hl [2, 0] rfl) h
  · have h := h2 cc
    refine r_bipush X dX8_readCues_11 (by decide +kernel) ?_
    refine lv_iload_n X.1 X.2.1 dX8_readCues_13 rfl (lv_at hl 0 rfl) ?_
    refine r_isub X dX8_readCues_14 ?_
    exact r_ireturn X hr hlk K w h dX8_readCues_15
theorem dX8_removeCue_0 : decode cX8_removeCue 0 = .ok (.aload_n 0, 1) := by decide +kernel
theorem dX8_removeCue_1 : decode cX8_removeCue 1 = .ok (.iload_n 1, 1) := by decide +kernel
theorem dX8_removeCue_2 : decode cX8_removeCue 2 = .ok (.invokevirtual 179, 3) := by decide +kernel
theorem dX8_removeCue_5 : decode cX8_removeCue 5 = .ok (.ifCond .ne 5, 3) := by decide +kernel
theorem dX8_removeCue_8 : decode cX8_removeCue 8 = .ok (.iconst (-1), 1) := by decide +kernel
theorem dX8_removeCue_9 : decode cX8_removeCue 9 = .ok (.ireturn, 1) := by decide +kernel
theorem dX8_removeCue_10 : decode cX8_removeCue 10 = .ok (.aload_n 0, 1) := by decide +kernel
theorem dX8_removeCue_11 : decode cX8_removeCue 11 = .ok (.invokevirtual 116, 3) := by decide +kernel
theorem dX8_removeCue_14 : decode cX8_removeCue 14 = .ok (.aload_n 0, 1) := by decide +kernel
theorem dX8_removeCue_15 : decode cX8_removeCue 15 = .ok (.iload_n 1, 1) := by decide +kernel
theorem dX8_removeCue_16 : decode cX8_removeCue 16 = .ok (.invokevirtual 182, 3) := by decide +kernel
theorem dX8_removeCue_19 : decode cX8_removeCue 19 = .ok (.aload_n 0, 1) := by decide +kernel
theorem dX8_removeCue_20 : decode cX8_removeCue 20 = .ok (.aload_n 0, 1) := by decide +kernel
theorem dX8_removeCue_21 : decode cX8_removeCue 21 = .ok (.getfield 7, 3) := by decide +kernel
theorem dX8_removeCue_24 : decode cX8_removeCue 24 = .ok (.bipush 36, 2) := by decide +kernel
theorem dX8_removeCue_26 : decode cX8_removeCue 26 = .ok (.iaload, 1) := by decide +kernel
theorem dX8_removeCue_27 : decode cX8_removeCue 27 = .ok (.invokevirtual 119, 3) := by decide +kernel
theorem dX8_removeCue_30 : decode cX8_removeCue 30 = .ok (.ireturn, 1) := by decide +kernel
set_option maxRecDepth 20000 in
theorem ggX8_removeCue_X8_acted : GoodIn wsX8_removeCue wsX8_acted := goodIn_r _ [25, 26, 27, 14, 28, 29, 30, 31, 32, 33, 34, 35, 36, 37, 38, 39, 40, 41, 42, 43, 44, 45, 46, 47, 48, 49, 50, 51, 52] (by decide +kernel) (by decide +kernel)
set_option maxRecDepth 20000 in
theorem gX8_removeCue_X8_acted : GoodIn wsX8_removeCue (wsV RX8 119 RX8 yX8_acted wsX8_acted) := goodIn_app (goodIn_of _ (by decide +kernel)) ggX8_removeCue_X8_acted
set_option maxRecDepth 20000 in
theorem ggX8_removeCue_X8_isCue : GoodIn wsX8_removeCue wsX8_isCue := goodIn_r _ [6, 1, 7, 8, 5, 9, 28, 29, 30, 31, 32, 33, 34, 35, 36, 37, 38, 39, 40, 41, 42, 43, 44, 45, 46, 47, 48, 49, 50, 51, 52] (by decide +kernel) (by decide +kernel)
set_option maxRecDepth 20000 in
theorem gX8_removeCue_X8_isCue : GoodIn wsX8_removeCue (wsV RX8 179 RX8 yX8_isCue wsX8_isCue) := goodIn_app (goodIn_of _ (by decide +kernel)) ggX8_removeCue_X8_isCue
set_option maxRecDepth 20000 in
theorem ggX8_removeCue_X8_remember : GoodIn wsX8_removeCue wsX8_remember := goodIn_r _ [13, 1, 14, 15, 16, 5, 17, 28, 29, 30, 31, 32, 33, 34, 35, 36, 37, 38, 39, 40, 41, 42, 43, 44, 45, 46, 47, 48, 49, 50, 51, 52] (by decide +kernel) (by decide +kernel)
set_option maxRecDepth 20000 in
theorem gX8_removeCue_X8_remember : GoodIn wsX8_removeCue (wsV RX8 116 RX8 yX8_remember wsX8_remember) := goodIn_app (goodIn_of _ (by decide +kernel)) ggX8_removeCue_X8_remember
set_option maxRecDepth 20000 in
theorem ggX8_removeCue_X8_takesOut : GoodIn wsX8_removeCue wsX8_takesOut := goodIn_r _ [21, 1, 28, 29, 30, 31, 32, 33, 34, 35, 36, 37, 38, 39, 40, 41, 42, 43, 44, 45, 46, 47, 48, 49, 50, 51, 52] (by decide +kernel) (by decide +kernel)
set_option maxRecDepth 20000 in
theorem gX8_removeCue_X8_takesOut : GoodIn wsX8_removeCue (wsV RX8 182 RX8 yX8_takesOut wsX8_takesOut) := goodIn_app (goodIn_of _ (by decide +kernel)) ggX8_removeCue_X8_takesOut
theorem iX8_removeCue_8 : ∀ w ∈ u_ws RX8 TX8 25, w ∈ wsX8_removeCue := fun w h => List.mem_cons_of_mem _ (List.mem_append_right _ (h))
set_option maxHeartbeats 4000000 in
set_option maxRecDepth 100000 in
theorem c_X8_removeCue {E : EE} {l : Launch} {g : GG} {ad : Nat → Nat} (hg : gwf g) {o0 : Nat} {x1 : Int} {M : Mm} {Q : Int → Mm → Prop} (k_o0 : gk g o0 = 8) (h : p_X8_removeCue g o0 x1 M Q) : Ct E l yX8_removeCue wsX8_removeCue rmX8_removeCue g ad [.ref (ad o0), cI x1] M (QI E g ad Q) := by
  refine ent (cc := cX8_removeCue) (maxL := 2) (ret := (some .int)) (own := RX8) (by decide +kernel) rfl rfl (Nat.le_of_ble_eq_true rfl) ?_
  intro p e s m below meth c ls X hr hlk K w hl
  have hl : lv_has ls 2 [(0, .ref (ad o0)), (1, cI x1)] := hl
  unfold p_X8_removeCue at h
  refine lv_aload_n X.1 X.2.1 dX8_removeCue_0 rfl (lv_at hl 0 rfl) ?_
  refine lv_iload_n X.1 X.2.1 dX8_removeCue_1 rfl (lv_at hl 1 rfl) ?_
  refine q_i (x_V (As := [cI x1]) (rest := []) X K w (c_X8_isCue hg k_o0 h) (cwV 1 X.2.2.2.2 gX8_removeCue_X8_isCue rfl rfl rfl (by decide +kernel) ⟨Nat.le_of_ble_eq_true rfl, Nat.le_of_ble_eq_true rfl⟩) k_o0 (by decide) rfl rfl hl rfl (Nat.le_of_ble_eq_true rfl) dX8_removeCue_2 ⟨Nat.le_of_ble_eq_true rfl, Nat.le_of_ble_eq_true rfl⟩) w (fun r2 M1 H locs h w => ?_)
  obtain ⟨i0, h1, h2⟩ := h
  refine r_if_ne (tgt := 10) X i0 dX8_removeCue_5 (by decide) (fun cc => ?_) (fun cc => ?_)
  · have h := h1 cc
    refine lv_aload_n X.1 X.2.1 dX8_removeCue_10 rfl (lv_at hl 0 rfl) ?_
    refine q_v (x_V (As := []) (rest := []) X K w (c_X8_remember hg k_o0 h) (cwV 0 X.2.2.2.2 gX8_removeCue_X8_remember rfl rfl rfl (by decide +kernel) ⟨Nat.le_of_ble_eq_true rfl, Nat.le_of_ble_eq_true rfl⟩) k_o0 (by decide) rfl rfl hl rfl (Nat.le_of_ble_eq_true rfl) dX8_removeCue_11 ⟨Nat.le_of_ble_eq_true rfl, Nat.le_of_ble_eq_true rfl⟩) w (fun M3 H locs h w => ?_)
    refine lv_aload_n X.1 X.2.1 dX8_removeCue_14 rfl (lv_at hl 0 rfl) ?_
    refine lv_iload_n X.1 X.2.1 dX8_removeCue_15 rfl (lv_at hl 1 rfl) ?_
    refine q_v (x_V (As := [cI x1]) (rest := []) X K w (c_X8_takesOut hg k_o0 h) (cwV 1 X.2.2.2.2 gX8_removeCue_X8_takesOut rfl rfl rfl (by decide +kernel) ⟨Nat.le_of_ble_eq_true rfl, Nat.le_of_ble_eq_true rfl⟩) k_o0 (by decide) rfl rfl hl rfl (Nat.le_of_ble_eq_true rfl) dX8_removeCue_16 ⟨Nat.le_of_ble_eq_true rfl, Nat.le_of_ble_eq_true rfl⟩) w (fun M4 H locs h w => ?_)
    refine lv_aload_n X.1 X.2.1 dX8_removeCue_19 rfl (lv_at hl 0 rfl) ?_
    refine lv_aload_n X.1 X.2.1 dX8_removeCue_20 rfl (lv_at hl 0 rfl) ?_
    refine r_getr (N := 25) (T := TX8) X K w iX8_removeCue_8 k_o0 rfl (by decide) 0 (by decide) rfl rfl (List.mem_of_getElem? (i := 1) rfl) dX8_removeCue_21 ?_
    have k5 : gk g (o0 + 1) = 9 := gch hg k_o0 (by decide) 0 (by decide) rfl rfl
    refine r_bipush X dX8_removeCue_24 (by decide +kernel) ?_
    obtain ⟨b1, h⟩ := h
    refine r_iald X K w hg k5 (by decide) b1 dX8_removeCue_26 ?_
    refine q_i (x_V (As := [cI (M4 (o0 + 1) 36)]) (rest := []) X K w (c_X8_acted hg k_o0 h) (cwV 1 X.2.2.2.2 gX8_removeCue_X8_acted rfl rfl rfl (by decide +kernel) ⟨Nat.le_of_ble_eq_true rfl, Nat.le_of_ble_eq_true rfl⟩) k_o0 (by decide) rfl rfl hl rfl (Nat.le_of_ble_eq_true rfl) dX8_removeCue_27 ⟨Nat.le_of_ble_eq_true rfl, Nat.le_of_ble_eq_true rfl⟩) w (fun r7 M6 H locs h w => ?_)
    exact r_ireturn X hr hlk K w h dX8_removeCue_30
  · have h := h2 cc
    refine r_iconst X dX8_removeCue_8 ?_
    exact r_ireturn X hr hlk K w h dX8_removeCue_9
