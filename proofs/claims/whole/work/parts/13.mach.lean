/-! contracts of the methods, by gen.py: X7_setSound, X7_setHands, X7_send, X7_setCarrying, X7_readCues, X7_removeCue, X7_shift, X7_cutScene, X7_rehearse, X7_take, X7_type, X7_clearText, X7_undo, X7_keep, X7_restore -/
theorem dX7_setSound_0 : decode cX7_setSound 0 = .ok (.iload_n 1, 1) := by decide +kernel
theorem dX7_setSound_1 : decode cX7_setSound 1 = .ok (.bipush 10, 2) := by decide +kernel
theorem dX7_setSound_3 : decode cX7_setSound 3 = .ok (.invokestatic 51, 3) := by decide +kernel
theorem dX7_setSound_6 : decode cX7_setSound 6 = .ok (.ifCond .ne 5, 3) := by decide +kernel
theorem dX7_setSound_9 : decode cX7_setSound 9 = .ok (.iconst (-1), 1) := by decide +kernel
theorem dX7_setSound_10 : decode cX7_setSound 10 = .ok (.ireturn, 1) := by decide +kernel
theorem dX7_setSound_11 : decode cX7_setSound 11 = .ok (.iload_n 2, 1) := by decide +kernel
theorem dX7_setSound_12 : decode cX7_setSound 12 = .ok (.iload_n 3, 1) := by decide +kernel
theorem dX7_setSound_13 : decode cX7_setSound 13 = .ok (.invokestatic 55, 3) := by decide +kernel
theorem dX7_setSound_16 : decode cX7_setSound 16 = .ok (.ifCond .ne 6, 3) := by decide +kernel
theorem dX7_setSound_19 : decode cX7_setSound 19 = .ok (.bipush (-2), 2) := by decide +kernel
theorem dX7_setSound_21 : decode cX7_setSound 21 = .ok (.ireturn, 1) := by decide +kernel
theorem dX7_setSound_22 : decode cX7_setSound 22 = .ok (.aload_n 0, 1) := by decide +kernel
theorem dX7_setSound_23 : decode cX7_setSound 23 = .ok (.getfield 10, 3) := by decide +kernel
theorem dX7_setSound_26 : decode cX7_setSound 26 = .ok (.iload_n 2, 1) := by decide +kernel
theorem dX7_setSound_27 : decode cX7_setSound 27 = .ok (.invokevirtual 58, 3) := by decide +kernel
theorem dX7_setSound_30 : decode cX7_setSound 30 = .ok (.astore 4, 2) := by decide +kernel
theorem dX7_setSound_32 : decode cX7_setSound 32 = .ok (.aload 4, 2) := by decide +kernel
theorem dX7_setSound_34 : decode cX7_setSound 34 = .ok (.iload_n 1, 1) := by decide +kernel
theorem dX7_setSound_35 : decode cX7_setSound 35 = .ok (.invokevirtual 62, 3) := by decide +kernel
theorem dX7_setSound_38 : decode cX7_setSound 38 = .ok (.istore 5, 2) := by decide +kernel
theorem dX7_setSound_40 : decode cX7_setSound 40 = .ok (.iload 5, 2) := by decide +kernel
theorem dX7_setSound_42 : decode cX7_setSound 42 = .ok (.iload_n 3, 1) := by decide +kernel
theorem dX7_setSound_43 : decode cX7_setSound 43 = .ok (.if_icmp .ne 6, 3) := by decide +kernel
theorem dX7_setSound_46 : decode cX7_setSound 46 = .ok (.bipush (-5), 2) := by decide +kernel
theorem dX7_setSound_48 : decode cX7_setSound 48 = .ok (.ireturn, 1) := by decide +kernel
theorem dX7_setSound_49 : decode cX7_setSound 49 = .ok (.aload_n 0, 1) := by decide +kernel
theorem dX7_setSound_50 : decode cX7_setSound 50 = .ok (.getfield 22, 3) := by decide +kernel
theorem dX7_setSound_53 : decode cX7_setSound 53 = .ok (.aload_n 0, 1) := by decide +kernel
theorem dX7_setSound_54 : decode cX7_setSound 54 = .ok (.getfield 10, 3) := by decide +kernel
theorem dX7_setSound_57 : decode cX7_setSound 57 = .ok (.invokevirtual 68, 3) := by decide +kernel
theorem dX7_setSound_60 : decode cX7_setSound 60 = .ok (.aload 4, 2) := by decide +kernel
theorem dX7_setSound_62 : decode cX7_setSound 62 = .ok (.iload_n 1, 1) := by decide +kernel
theorem dX7_setSound_63 : decode cX7_setSound 63 = .ok (.iload_n 3, 1) := by decide +kernel
theorem dX7_setSound_64 : decode cX7_setSound 64 = .ok (.invokevirtual 72, 3) := by decide +kernel
theorem dX7_setSound_67 : decode cX7_setSound 67 = .ok (.iload 5, 2) := by decide +kernel
theorem dX7_setSound_69 : decode cX7_setSound 69 = .ok (.ireturn, 1) := by decide +kernel
set_option maxRecDepth 20000 in
theorem ggX7_setSound_X2_record : GoodIn wsX7_setSound wsX2_record := goodIn_r _ [31, 32, 33, 34, 35, 36, 30, 37, 38, 39, 40, 41, 42, 43, 44, 16, 45, 18, 19, 20, 46, 47, 48, 49, 50, 51, 52, 53, 54, 55, 56, 24, 57, 26, 58, 59, 60, 61, 62, 63, 64, 65, 66, 67, 68, 69, 70, 71, 72, 73, 74, 75, 76, 77, 78, 102, 103, 90, 91, 92, 93, 94, 95, 96, 97, 98, 99, 100, 101, 104, 105, 106, 107, 108, 109] (by decide +kernel) (by decide +kernel)
set_option maxRecDepth 20000 in
theorem gX7_setSound_X2_record : GoodIn wsX7_setSound (wsV RX7 68 RX2 yX2_record wsX2_record) := goodIn_app (goodIn_of _ (by decide +kernel)) ggX7_setSound_X2_record
set_option maxRecDepth 20000 in
theorem ggX7_setSound_X4_get : GoodIn wsX7_setSound wsX4_get := goodIn_r _ [25, 26, 101] (by decide +kernel) (by decide +kernel)
set_option maxRecDepth 20000 in
theorem gX7_setSound_X4_get : GoodIn wsX7_setSound (wsV RX7 62 RX4 yX4_get wsX4_get) := goodIn_app (goodIn_of _ (by decide +kernel)) ggX7_setSound_X4_get
set_option maxRecDepth 20000 in
theorem ggX7_setSound_X4_put : GoodIn wsX7_setSound wsX4_put := goodIn_r _ [82, 26, 101] (by decide +kernel) (by decide +kernel)
set_option maxRecDepth 20000 in
theorem gX7_setSound_X4_put : GoodIn wsX7_setSound (wsV RX7 72 RX4 yX4_put wsX4_put) := goodIn_app (goodIn_of _ (by decide +kernel)) ggX7_setSound_X4_put
set_option maxRecDepth 20000 in
theorem ggX7_setSound_X5_soundRow : GoodIn wsX7_setSound wsX5_soundRow := goodIn_r _ [17, 18, 19, 20, 90, 91, 92, 93, 94, 95, 96, 97, 98, 99, 100] (by decide +kernel) (by decide +kernel)
set_option maxRecDepth 20000 in
theorem gX7_setSound_X5_soundRow : GoodIn wsX7_setSound (wsV RX7 58 RX5 yX5_soundRow wsX5_soundRow) := goodIn_app (goodIn_of _ (by decide +kernel)) ggX7_setSound_X5_soundRow
set_option maxRecDepth 20000 in
theorem ggX7_setSound_X7_isBelow : GoodIn wsX7_setSound wsX7_isBelow := goodIn_r _ [6] (by decide +kernel) (by decide +kernel)
set_option maxRecDepth 20000 in
theorem gX7_setSound_X7_isBelow : GoodIn wsX7_setSound (va_wsS RX7 51 yX7_isBelow wsX7_isBelow) := goodIn_app (goodIn_of _ (by decide +kernel)) ggX7_setSound_X7_isBelow
set_option maxRecDepth 20000 in
theorem ggX7_setSound_X7_isSoundValue : GoodIn wsX7_setSound wsX7_isSoundValue := goodIn_r _ [9, 3, 4, 5, 6, 10, 11, 12] (by decide +kernel) (by decide +kernel)
set_option maxRecDepth 20000 in
theorem gX7_setSound_X7_isSoundValue : GoodIn wsX7_setSound (va_wsS RX7 55 yX7_isSoundValue wsX7_isSoundValue) := goodIn_app (goodIn_of _ (by decide +kernel)) ggX7_setSound_X7_isSoundValue
theorem iX7_setSound_7 : ∀ w ∈ u_ws RX7 TX7 7, w ∈ wsX7_setSound := fun w h => List.mem_cons_of_mem _ (List.mem_append_left _ (List.mem_append_left _ (List.mem_append_left _ (List.mem_append_left _ (List.mem_append_right _ (h))))))
set_option maxHeartbeats 4000000 in
set_option maxRecDepth 100000 in
theorem c_X7_setSound {E : EE} {l : Launch} {g : GG} {ad : Nat → Nat} (hg : gwf g) {o0 : Nat} {x1 : Int} {x2 : Int} {x3 : Int} {M : Mm} {Q : Int → Mm → Prop} (k_o0 : gk g o0 = 7) (h : p_X7_setSound g o0 x1 x2 x3 M Q) : Ct E l yX7_setSound wsX7_setSound rmX7_setSound g ad [.ref (ad o0), cI x1, cI x2, cI x3] M (QI E g ad Q) := by
  refine ent (cc := cX7_setSound) (maxL := 6) (ret := (some .int)) (own := RX7) (by decide +kernel) rfl rfl (Nat.le_of_ble_eq_true rfl) ?_
  intro p e s m below meth c ls X hr hlk K w hl
  have hl : lv_has ls 6 [(0, .ref (ad o0)), (1, cI x1), (2, cI x2), (3, cI x3)] := hl
  unfold p_X7_setSound at h
  refine lv_iload_n X.1 X.2.1 dX7_setSound_0 rfl (lv_at hl 1 rfl) ?_
  refine r_bipush X dX7_setSound_1 (by decide +kernel) ?_
  refine q_i (x_S (As := [cI x1, cI 10]) (rest := []) X K w (c_X7_isBelow hg h) (va_cwS 2 X.2.2.2.2 gX7_setSound_X7_isBelow rfl rfl rfl (by decide +kernel) ⟨Nat.le_of_ble_eq_true rfl, Nat.le_of_ble_eq_true rfl⟩) rfl hl rfl (Nat.le_of_ble_eq_true rfl) dX7_setSound_3 ⟨Nat.le_of_ble_eq_true rfl, Nat.le_of_ble_eq_true rfl⟩) w (fun r2 M1 H locs h w => ?_)
  obtain ⟨i0, h1, h2⟩ := h
  refine r_if_ne (tgt := 11) X i0 dX7_setSound_6 (by decide) (fun cc => ?_) (fun cc => ?_)
  · have h := h1 cc
    refine lv_iload_n X.1 X.2.1 dX7_setSound_11 rfl (lv_at hl 2 rfl) ?_
    refine lv_iload_n X.1 X.2.1 dX7_setSound_12 rfl (lv_at hl 3 rfl) ?_
    refine q_i (x_S (As := [cI x2, cI x3]) (rest := []) X K w (c_X7_isSoundValue hg h) (va_cwS 2 X.2.2.2.2 gX7_setSound_X7_isSoundValue rfl rfl rfl (by decide +kernel) ⟨Nat.le_of_ble_eq_true rfl, Nat.le_of_ble_eq_true rfl⟩) rfl hl rfl (Nat.le_of_ble_eq_true rfl) dX7_setSound_13 ⟨Nat.le_of_ble_eq_true rfl, Nat.le_of_ble_eq_true rfl⟩) w (fun r4 M3 H locs h w => ?_)
    obtain ⟨i0, h1, h2⟩ := h
    refine r_if_ne (tgt := 22) X i0 dX7_setSound_16 (by decide) (fun cc => ?_) (fun cc => ?_)
    · have h := h1 cc
      refine lv_aload_n X.1 X.2.1 dX7_setSound_22 rfl (lv_at hl 0 rfl) ?_
      refine r_getr (N := 7) (T := TX7) X K w iX7_setSound_7 k_o0 rfl (by decide) 0 (by decide) rfl rfl (List.mem_of_getElem? (i := 1) rfl) dX7_setSound_23 ?_
      have k5 : gk g (o0 + 1) = 5 := gch hg k_o0 (by decide) 0 (by decide) rfl rfl
      refine lv_iload_n X.1 X.2.1 dX7_setSound_26 rfl (lv_at hl 2 rfl) ?_
      refine q_r (x_V (As := [cI x2]) (rest := []) X K w (c_X5_soundRow hg k5 h) (cwV 1 X.2.2.2.2 gX7_setSound_X5_soundRow rfl rfl rfl (by decide +kernel) ⟨Nat.le_of_ble_eq_true rfl, Nat.le_of_ble_eq_true rfl⟩) k5 (by decide) rfl rfl hl rfl (Nat.le_of_ble_eq_true rfl) dX7_setSound_27 ⟨Nat.le_of_ble_eq_true rfl, Nat.le_of_ble_eq_true rfl⟩) w (fun o7 M6 H locs h k8 w => ?_)
      replace h := h k8
      refine lv_astore (lv' := [(4, .ref (ad o7)), (0, .ref (ad o0)), (1, cI x1), (2, cI x2), (3, cI x3)]) X.1 X.2.1 dX7_setSound_30 hl (by decide) rfl (fun ls hl => ?_)
      refine lv_aload X.1 X.2.1 dX7_setSound_32 (lv_at hl 0 rfl) ?_
      refine lv_iload_n X.1 X.2.1 dX7_setSound_34 rfl (lv_at hl 2 rfl) ?_
      refine q_i (x_V (As := [cI x1]) (rest := []) X K w (c_X4_get hg k8 h) (cwV 1 X.2.2.2.2 gX7_setSound_X4_get rfl rfl rfl (by decide +kernel) ⟨Nat.le_of_ble_eq_true rfl, Nat.le_of_ble_eq_true rfl⟩) k8 (by decide) rfl rfl hl rfl (Nat.le_of_ble_eq_true rfl) dX7_setSound_35 ⟨Nat.le_of_ble_eq_true rfl, Nat.le_of_ble_eq_true rfl⟩) w (fun r10 M9 H locs h w => ?_)
      refine lv_istore (lv' := [(5, cI r10), (4, .ref (ad o7)), (0, .ref (ad o0)), (1, cI x1), (2, cI x2), (3, cI x3)]) X.1 X.2.1 dX7_setSound_38 hl (by decide) rfl (fun ls hl => ?_)
      refine lv_iload X.1 X.2.1 dX7_setSound_40 (lv_at hl 0 rfl) ?_
      refine lv_iload_n X.1 X.2.1 dX7_setSound_42 rfl (lv_at hl 5 rfl) ?_
      obtain ⟨i0, i1, h1, h2⟩ := h
      refine r_icmp_ne (tgt := 49) X i0 i1 dX7_setSound_43 (by decide) (fun cc => ?_) (fun cc => ?_)
      · have h := h1 cc
        refine lv_aload_n X.1 X.2.1 dX7_setSound_49 rfl (lv_at hl 2 rfl) ?_
        refine r_getr (N := 7) (T := TX7) X K w iX7_setSound_7 k_o0 rfl (by decide) 2 (by decide) rfl rfl (List.mem_of_getElem? (i := 2) rfl) dX7_setSound_50 ?_
        have k11 : gk g (o0 + 37) = 2 := gch hg k_o0 (by decide) 2 (by decide) rfl rfl
        refine lv_aload_n X.1 X.2.1 dX7_setSound_53 rfl (lv_at hl 2 rfl) ?_
        refine r_getr (N := 7) (T := TX7) X K w iX7_setSound_7 k_o0 rfl (by decide) 0 (by decide) rfl rfl (List.mem_of_getElem? (i := 1) rfl) dX7_setSound_54 ?_
        have k12 : gk g (o0 + 1) = 5 := gch hg k_o0 (by decide) 0 (by decide) rfl rfl
        refine q_v (x_V (As := [.ref (ad (o0 + 1))]) (rest := []) X K w (c_X2_record hg k11 k12 h) (cwV 1 X.2.2.2.2 gX7_setSound_X2_record rfl rfl rfl (by decide +kernel) ⟨Nat.le_of_ble_eq_true rfl, Nat.le_of_ble_eq_true rfl⟩) k11 (by decide) rfl rfl hl rfl (Nat.le_of_ble_eq_true rfl) dX7_setSound_57 ⟨Nat.le_of_ble_eq_true rfl, Nat.le_of_ble_eq_true rfl⟩) w (fun M13 H locs h w => ?_)
        refine lv_aload X.1 X.2.1 dX7_setSound_60 (lv_at hl 1 rfl) ?_
        refine lv_iload_n X.1 X.2.1 dX7_setSound_62 rfl (lv_at hl 3 rfl) ?_
        refine lv_iload_n X.1 X.2.1 dX7_setSound_63 rfl (lv_at hl 5 rfl) ?_
        refine q_v (x_V (As := [cI x1, cI x3]) (rest := []) X K w (c_X4_put hg k8 h) (cwV 2 X.2.2.2.2 gX7_setSound_X4_put rfl rfl rfl (by decide +kernel) ⟨Nat.le_of_ble_eq_true rfl, Nat.le_of_ble_eq_true rfl⟩) k8 (by decide) rfl rfl hl rfl (Nat.le_of_ble_eq_true rfl) dX7_setSound_64 ⟨Nat.le_of_ble_eq_true rfl, Nat.le_of_ble_eq_true rfl⟩) w (fun M14 H locs h w => ?_)
        refine lv_iload X.1 X.2.1 dX7_setSound_67 (lv_at hl 0 rfl) ?_
        exact r_ireturn X hr hlk K w h dX7_setSound_69
      · have h := h2 cc
        refine r_bipush X dX7_setSound_46 (by decide +kernel) ?_
        exact r_ireturn X hr hlk K w h dX7_setSound_48
    · have h := h2 cc
      refine r_bipush X dX7_setSound_19 (by decide +kernel) ?_
      exact r_ireturn X hr hlk K w h dX7_setSound_21
  · have h := h2 cc
    refine r_iconst X dX7_setSound_9 ?_
    exact r_ireturn X hr hlk K w h dX7_setSound_10
theorem dX7_setHands_0 : decode cX7_setHands 0 = .ok (.iload_n 1, 1) := by decide +kernel
theorem dX7_setHands_1 : decode cX7_setHands 1 = .ok (.iconst 1, 1) := by decide +kernel
theorem dX7_setHands_2 : decode cX7_setHands 2 = .ok (.iconst 4, 1) := by decide +kernel
theorem dX7_setHands_3 : decode cX7_setHands 3 = .ok (.invokestatic 76, 3) := by decide +kernel
theorem dX7_setHands_6 : decode cX7_setHands 6 = .ok (.ifCond .ne 6, 3) := by decide +kernel
theorem dX7_setHands_9 : decode cX7_setHands 9 = .ok (.bipush (-2), 2) := by decide +kernel
theorem dX7_setHands_11 : decode cX7_setHands 11 = .ok (.ireturn, 1) := by decide +kernel
theorem dX7_setHands_12 : decode cX7_setHands 12 = .ok (.aload_n 0, 1) := by decide +kernel
theorem dX7_setHands_13 : decode cX7_setHands 13 = .ok (.getfield 10, 3) := by decide +kernel
theorem dX7_setHands_16 : decode cX7_setHands 16 = .ok (.getfield 80, 3) := by decide +kernel
theorem dX7_setHands_19 : decode cX7_setHands 19 = .ok (.istore_n 2, 1) := by decide +kernel
theorem dX7_setHands_20 : decode cX7_setHands 20 = .ok (.iload_n 2, 1) := by decide +kernel
theorem dX7_setHands_21 : decode cX7_setHands 21 = .ok (.iload_n 1, 1) := by decide +kernel
theorem dX7_setHands_22 : decode cX7_setHands 22 = .ok (.if_icmp .ne 6, 3) := by decide +kernel
theorem dX7_setHands_25 : decode cX7_setHands 25 = .ok (.bipush (-5), 2) := by decide +kernel
theorem dX7_setHands_27 : decode cX7_setHands 27 = .ok (.ireturn, 1) := by decide +kernel
theorem dX7_setHands_28 : decode cX7_setHands 28 = .ok (.aload_n 0, 1) := by decide +kernel
theorem dX7_setHands_29 : decode cX7_setHands 29 = .ok (.getfield 22, 3) := by decide +kernel
theorem dX7_setHands_32 : decode cX7_setHands 32 = .ok (.aload_n 0, 1) := by decide +kernel
theorem dX7_setHands_33 : decode cX7_setHands 33 = .ok (.getfield 10, 3) := by decide +kernel
theorem dX7_setHands_36 : decode cX7_setHands 36 = .ok (.invokevirtual 68, 3) := by decide +kernel
theorem dX7_setHands_39 : decode cX7_setHands 39 = .ok (.iload_n 2, 1) := by decide +kernel
theorem dX7_setHands_40 : decode cX7_setHands 40 = .ok (.istore_n 3, 1) := by decide +kernel
theorem dX7_setHands_41 : decode cX7_setHands 41 = .ok (.iload_n 3, 1) := by decide +kernel
theorem dX7_setHands_42 : decode cX7_setHands 42 = .ok (.iload_n 1, 1) := by decide +kernel
theorem dX7_setHands_43 : decode cX7_setHands 43 = .ok (.if_icmp .ge 21, 3) := by decide +kernel
theorem dX7_setHands_46 : decode cX7_setHands 46 = .ok (.aload_n 0, 1) := by decide +kernel
theorem dX7_setHands_47 : decode cX7_setHands 47 = .ok (.getfield 10, 3) := by decide +kernel
theorem dX7_setHands_50 : decode cX7_setHands 50 = .ok (.getfield 84, 3) := by decide +kernel
theorem dX7_setHands_53 : decode cX7_setHands 53 = .ok (.iload_n 3, 1) := by decide +kernel
theorem dX7_setHands_54 : decode cX7_setHands 54 = .ok (.iload_n 3, 1) := by decide +kernel
theorem dX7_setHands_55 : decode cX7_setHands 55 = .ok (.invokevirtual 72, 3) := by decide +kernel
theorem dX7_setHands_58 : decode cX7_setHands 58 = .ok (.iinc 3 1, 3) := by decide +kernel
theorem dX7_setHands_61 : decode cX7_setHands 61 = .ok (.goto (-20), 3) := by decide +kernel
theorem dX7_setHands_64 : decode cX7_setHands 64 = .ok (.aload_n 0, 1) := by decide +kernel
theorem dX7_setHands_65 : decode cX7_setHands 65 = .ok (.getfield 10, 3) := by decide +kernel
theorem dX7_setHands_68 : decode cX7_setHands 68 = .ok (.iload_n 1, 1) := by decide +kernel
theorem dX7_setHands_69 : decode cX7_setHands 69 = .ok (.putfield 80, 3) := by decide +kernel
theorem dX7_setHands_72 : decode cX7_setHands 72 = .ok (.iload_n 2, 1) := by decide +kernel
theorem dX7_setHands_73 : decode cX7_setHands 73 = .ok (.ireturn, 1) := by decide +kernel
set_option maxRecDepth 20000 in
theorem ggX7_setHands_X2_record : GoodIn wsX7_setHands wsX2_record := goodIn_r _ [11, 12, 13, 14, 15, 16, 10, 17, 18, 19, 20, 21, 22, 23, 24, 25, 26, 27, 28, 29, 30, 31, 32, 33, 34, 35, 36, 37, 38, 39, 40, 41, 42, 43, 44, 45, 46, 47, 48, 49, 50, 51, 52, 53, 54, 55, 56, 57, 58, 59, 60, 61, 62, 63, 64, 87, 88, 76, 77, 78, 79, 80, 81, 82, 83, 84, 85, 86, 89, 90, 91, 92, 93, 94, 95] (by decide +kernel) (by decide +kernel)
set_option maxRecDepth 20000 in
theorem gX7_setHands_X2_record : GoodIn wsX7_setHands (wsV RX7 68 RX2 yX2_record wsX2_record) := goodIn_app (goodIn_of _ (by decide +kernel)) ggX7_setHands_X2_record
set_option maxRecDepth 20000 in
theorem ggX7_setHands_X4_put : GoodIn wsX7_setHands wsX4_put := goodIn_r _ [68, 43, 89] (by decide +kernel) (by decide +kernel)
set_option maxRecDepth 20000 in
theorem gX7_setHands_X4_put : GoodIn wsX7_setHands (wsV RX7 72 RX4 yX4_put wsX4_put) := goodIn_app (goodIn_of _ (by decide +kernel)) ggX7_setHands_X4_put
set_option maxRecDepth 20000 in
theorem ggX7_setHands_X7_isWithin : GoodIn wsX7_setHands wsX7_isWithin := goodIn_r _ [6] (by decide +kernel) (by decide +kernel)
set_option maxRecDepth 20000 in
theorem gX7_setHands_X7_isWithin : GoodIn wsX7_setHands (va_wsS RX7 76 yX7_isWithin wsX7_isWithin) := goodIn_app (goodIn_of _ (by decide +kernel)) ggX7_setHands_X7_isWithin
theorem iX7_setHands_5 : ∀ w ∈ u_ws RX5 TX5 11, w ∈ wsX7_setHands := fun w h => List.mem_cons_of_mem _ (List.mem_append_left _ (List.mem_append_left _ (List.mem_append_left _ (List.mem_append_right _ (h)))))
theorem iX7_setHands_7 : ∀ w ∈ u_ws RX7 TX7 7, w ∈ wsX7_setHands := fun w h => List.mem_cons_of_mem _ (List.mem_append_left _ (List.mem_append_left _ (List.mem_append_left _ (List.mem_append_left _ (List.mem_append_right _ (h))))))
set_option maxHeartbeats 4000000 in
set_option maxRecDepth 100000 in
theorem w_X7_setHands_L41 {p : Program} {l : Launch} {e : Env} {s : State} {m : MethodId} {args : Array Value} {below : List Frame} {meth : Method} {c : Code} {E : EE} {g : GG} {ad : Nat → Nat} (hg : gwf g) (X : CallFix p m c cX7_setHands 4 s args wsX7_setHands RX7) (K : Kn E s) (hr : meth.sig.returnType = (some .int)) (hlk : meth.locks = false) {Q : Int → Mm → Prop} : ∀ (n : Nat) (o0 : Nat) (x1 : Int) (x2 : Int) (x3 : Int) (M : Mm) (H : Heap) (locs : List Loc) (ls : Array Slot), gk g o0 = 7 → Rw E g ad M s.heap H locs → lv_has ls 4 [(0, .ref (ad o0)), (1, cI x1), (2, cI x2), (3, cI x3)] → p_X7_setHands_L41 g n o0 x1 x2 x3 M Q → W p l e rmX7_setHands s m args below meth c H locs 0 0 (MQ below (QI E g ad Q) args s 0 0 (Rg g ad)) (F0 m 41 ls []) := by
  intro n
  induction n with
  | zero =>
    intro o0 x1 x2 x3 M H locs ls k_o0 w hl h
    exact absurd h (by unfold p_X7_setHands_L41; exact id)
  | succ n ih =>
    intro o0 x1 x2 x3 M H locs ls k_o0 w hl h
    unfold p_X7_setHands_L41 at h
    refine lv_iload_n X.1 X.2.1 dX7_setHands_41 rfl (lv_at hl 3 rfl) ?_
    refine lv_iload_n X.1 X.2.1 dX7_setHands_42 rfl (lv_at hl 1 rfl) ?_
    obtain ⟨i0, i1, h1, h2⟩ := h
    refine r_icmp_ge (tgt := 64) X i0 i1 dX7_setHands_43 (by decide) (fun cc => ?_) (fun cc => ?_)
    · have h := h1 cc
      refine lv_aload_n X.1 X.2.1 dX7_setHands_64 rfl (lv_at hl 0 rfl) ?_
      refine r_getr (N := 7) (T := TX7) X K w iX7_setHands_7 k_o0 rfl (by decide) 0 (by decide) rfl rfl (List.mem_of_getElem? (i := 1) rfl) dX7_setHands_65 ?_
      have k7 : gk g (o0 + 1) = 5 := gch hg k_o0 (by decide) 0 (by decide) rfl rfl
      refine lv_iload_n X.1 X.2.1 dX7_setHands_68 rfl (lv_at hl 1 rfl) ?_
      refine r_putiN (N := 11) (T := TX5) (kz := 5) (ty := .int) X K w iX7_setHands_5 tyX5 tyX5_ok nmX5 k7 rfl (by decide) 5 (by decide) rfl rfl rfl rfl (by decide +kernel) rfl rfl (List.mem_of_getElem? (i := 18) rfl) dX7_setHands_69 (fun M8 H locs e w => ?_)
      replace h := h M8 e
      refine lv_iload_n X.1 X.2.1 dX7_setHands_72 rfl (lv_at hl 2 rfl) ?_
      exact r_ireturn X hr hlk K w h dX7_setHands_73
    · have h := h2 cc
      refine lv_aload_n X.1 X.2.1 dX7_setHands_46 rfl (lv_at hl 0 rfl) ?_
      refine r_getr (N := 7) (T := TX7) X K w iX7_setHands_7 k_o0 rfl (by decide) 0 (by decide) rfl rfl (List.mem_of_getElem? (i := 1) rfl) dX7_setHands_47 ?_
      have k9 : gk g (o0 + 1) = 5 := gch hg k_o0 (by decide) 0 (by decide) rfl rfl
      refine r_getrN (N := 11) (T := TX5) X K w iX7_setHands_5 k9 rfl (by decide) 3 (by decide) rfl rfl (List.mem_of_getElem? (i := 14) rfl) dX7_setHands_50 ?_
      have k10 : gk g ((o0 + 1) + 7) = 4 := gch hg k9 (by decide) 3 (by decide) rfl rfl
      refine lv_iload_n X.1 X.2.1 dX7_setHands_53 rfl (lv_at hl 3 rfl) ?_
      refine lv_iload_n X.1 X.2.1 dX7_setHands_54 rfl (lv_at hl 3 rfl) ?_
      refine q_v (x_V (As := [cI x3, cI x3]) (rest := []) X K w (c_X4_put hg k10 h) (cwV 2 X.2.2.2.2 gX7_setHands_X4_put rfl rfl rfl (by decide +kernel) ⟨Nat.le_of_ble_eq_true rfl, Nat.le_of_ble_eq_true rfl⟩) k10 (by decide) rfl rfl hl rfl (Nat.le_of_ble_eq_true rfl) dX7_setHands_55 ⟨Nat.le_of_ble_eq_true rfl, Nat.le_of_ble_eq_true rfl⟩) w (fun M11 H locs h w => ?_)
      refine r_iinc (lv' := [(3, cI (x3 + 1)), (0, .ref (ad o0)), (1, cI x1), (2, cI x2)]) X hl (k := 3) rfl (by decide) dX7_setHands_58 rfl (fun ls hl => ?_)
      refine lv_goto (tgt := 41) X.1 X.2.1 dX7_setHands_61 (by decide) ?_
      exact ih o0 x1 x2 (x3 + 1) M11 _ _ _ k_o0 w (lv_sub hl [1, 2, 3, 0] rfl) h
set_option maxHeartbeats 4000000 in
set_option maxRecDepth 100000 in
theorem c_X7_setHands {E : EE} {l : Launch} {g : GG} {ad : Nat → Nat} (hg : gwf g) {o0 : Nat} {x1 : Int} {M : Mm} {Q : Int → Mm → Prop} (k_o0 : gk g o0 = 7) (h : p_X7_setHands g o0 x1 M Q) : Ct E l yX7_setHands wsX7_setHands rmX7_setHands g ad [.ref (ad o0), cI x1] M (QI E g ad Q) := by
  refine ent (cc := cX7_setHands) (maxL := 4) (ret := (some .int)) (own := RX7) (by decide +kernel) rfl rfl (Nat.le_of_ble_eq_true rfl) ?_
  intro p e s m below meth c ls X hr hlk K w hl
  have hl : lv_has ls 4 [(0, .ref (ad o0)), (1, cI x1)] := hl
  unfold p_X7_setHands at h
  refine lv_iload_n X.1 X.2.1 dX7_setHands_0 rfl (lv_at hl 1 rfl) ?_
  refine r_iconst X dX7_setHands_1 ?_
  refine r_iconst X dX7_setHands_2 ?_
  refine q_i (x_S (As := [cI x1, cI 1, cI 4]) (rest := []) X K w (c_X7_isWithin hg h) (va_cwS 3 X.2.2.2.2 gX7_setHands_X7_isWithin rfl rfl rfl (by decide +kernel) ⟨Nat.le_of_ble_eq_true rfl, Nat.le_of_ble_eq_true rfl⟩) rfl hl rfl (Nat.le_of_ble_eq_true rfl) dX7_setHands_3 ⟨Nat.le_of_ble_eq_true rfl, Nat.le_of_ble_eq_true rfl⟩) w (fun r2 M1 H locs h w => ?_)
  obtain ⟨i0, h1, h2⟩ := h
  refine r_if_ne (tgt := 12) X i0 dX7_setHands_6 (by decide) (fun cc => ?_) (fun cc => ?_)
  · have h := h1 cc
    refine lv_aload_n X.1 X.2.1 dX7_setHands_12 rfl (lv_at hl 0 rfl) ?_
    refine r_getr (N := 7) (T := TX7) X K w iX7_setHands_7 k_o0 rfl (by decide) 0 (by decide) rfl rfl (List.mem_of_getElem? (i := 1) rfl) dX7_setHands_13 ?_
    have k3 : gk g (o0 + 1) = 5 := gch hg k_o0 (by decide) 0 (by decide) rfl rfl
    refine r_getiN (N := 11) (T := TX5) (kz := 5) X K w iX7_setHands_5 k3 rfl (by decide) 5 (by decide) rfl rfl rfl (List.mem_of_getElem? (i := 18) rfl) dX7_setHands_16 ?_
    refine lv_istore_n (lv' := [(2, cI (M1 (o0 + 1) 5)), (0, .ref (ad o0)), (1, cI x1)]) X.1 X.2.1 dX7_setHands_19 rfl hl (by decide) rfl (fun ls hl => ?_)
    refine lv_iload_n X.1 X.2.1 dX7_setHands_20 rfl (lv_at hl 0 rfl) ?_
    refine lv_iload_n X.1 X.2.1 dX7_setHands_21 rfl (lv_at hl 2 rfl) ?_
    obtain ⟨i0, i1, h1, h2⟩ := h
    refine r_icmp_ne (tgt := 28) X i0 i1 dX7_setHands_22 (by decide) (fun cc => ?_) (fun cc => ?_)
    · have h := h1 cc
      refine lv_aload_n X.1 X.2.1 dX7_setHands_28 rfl (lv_at hl 1 rfl) ?_
      refine r_getr (N := 7) (T := TX7) X K w iX7_setHands_7 k_o0 rfl (by decide) 2 (by decide) rfl rfl (List.mem_of_getElem? (i := 2) rfl) dX7_setHands_29 ?_
      have k4 : gk g (o0 + 37) = 2 := gch hg k_o0 (by decide) 2 (by decide) rfl rfl
      refine lv_aload_n X.1 X.2.1 dX7_setHands_32 rfl (lv_at hl 1 rfl) ?_
      refine r_getr (N := 7) (T := TX7) X K w iX7_setHands_7 k_o0 rfl (by decide) 0 (by decide) rfl rfl (List.mem_of_getElem? (i := 1) rfl) dX7_setHands_33 ?_
      have k5 : gk g (o0 + 1) = 5 := gch hg k_o0 (by decide) 0 (by decide) rfl rfl
      refine q_v (x_V (As := [.ref (ad (o0 + 1))]) (rest := []) X K w (c_X2_record hg k4 k5 h) (cwV 1 X.2.2.2.2 gX7_setHands_X2_record rfl rfl rfl (by decide +kernel) ⟨Nat.le_of_ble_eq_true rfl, Nat.le_of_ble_eq_true rfl⟩) k4 (by decide) rfl rfl hl rfl (Nat.le_of_ble_eq_true rfl) dX7_setHands_36 ⟨Nat.le_of_ble_eq_true rfl, Nat.le_of_ble_eq_true rfl⟩) w (fun M6 H locs h w => ?_)
      refine lv_iload_n X.1 X.2.1 dX7_setHands_39 rfl (lv_at hl 0 rfl) ?_
      refine lv_istore_n (lv' := [(3, cI (M1 (o0 + 1) 5)), (2, cI (M1 (o0 + 1) 5)), (0, .ref (ad o0)), (1, cI x1)]) X.1 X.2.1 dX7_setHands_40 rfl hl (by decide) rfl (fun ls hl => ?_)
      obtain ⟨n12, h⟩ := h
      exact w_X7_setHands_L41 hg X K hr hlk n12 o0 x1 (M1 (o0 + 1) 5) (M1 (o0 + 1) 5) M6 _ _ _ k_o0 w (lv_sub hl [2, 3, 1, 0] rfl) h
    · have h := h2 cc
      refine r_bipush X dX7_setHands_25 (by decide +kernel) ?_
      exact r_ireturn X hr hlk K w h dX7_setHands_27
  · have h := h2 cc
    refine r_bipush X dX7_setHands_9 (by decide +kernel) ?_
    exact r_ireturn X hr hlk K w h dX7_setHands_11
theorem dX7_send_0 : decode cX7_send 0 = .ok (.iload_n 1, 1) := by decide +kernel
theorem dX7_send_1 : decode cX7_send 1 = .ok (.aload_n 0, 1) := by decide +kernel
theorem dX7_send_2 : decode cX7_send 2 = .ok (.getfield 10, 3) := by decide +kernel
theorem dX7_send_5 : decode cX7_send 5 = .ok (.getfield 80, 3) := by decide +kernel
theorem dX7_send_8 : decode cX7_send 8 = .ok (.invokestatic 51, 3) := by decide +kernel
theorem dX7_send_11 : decode cX7_send 11 = .ok (.ifCond .eq 11, 3) := by decide +kernel
theorem dX7_send_14 : decode cX7_send 14 = .ok (.iload_n 2, 1) := by decide +kernel
theorem dX7_send_15 : decode cX7_send 15 = .ok (.iconst 5, 1) := by decide +kernel
theorem dX7_send_16 : decode cX7_send 16 = .ok (.invokestatic 51, 3) := by decide +kernel
theorem dX7_send_19 : decode cX7_send 19 = .ok (.ifCond .ne 5, 3) := by decide +kernel
theorem dX7_send_22 : decode cX7_send 22 = .ok (.iconst (-1), 1) := by decide +kernel
theorem dX7_send_23 : decode cX7_send 23 = .ok (.ireturn, 1) := by decide +kernel
theorem dX7_send_24 : decode cX7_send 24 = .ok (.aload_n 0, 1) := by decide +kernel
theorem dX7_send_25 : decode cX7_send 25 = .ok (.getfield 10, 3) := by decide +kernel
theorem dX7_send_28 : decode cX7_send 28 = .ok (.getfield 84, 3) := by decide +kernel
theorem dX7_send_31 : decode cX7_send 31 = .ok (.iload_n 1, 1) := by decide +kernel
theorem dX7_send_32 : decode cX7_send 32 = .ok (.invokevirtual 62, 3) := by decide +kernel
theorem dX7_send_35 : decode cX7_send 35 = .ok (.istore_n 3, 1) := by decide +kernel
theorem dX7_send_36 : decode cX7_send 36 = .ok (.iload_n 3, 1) := by decide +kernel
theorem dX7_send_37 : decode cX7_send 37 = .ok (.iload_n 2, 1) := by decide +kernel
theorem dX7_send_38 : decode cX7_send 38 = .ok (.if_icmp .ne 6, 3) := by decide +kernel
theorem dX7_send_41 : decode cX7_send 41 = .ok (.bipush (-5), 2) := by decide +kernel
theorem dX7_send_43 : decode cX7_send 43 = .ok (.ireturn, 1) := by decide +kernel
theorem dX7_send_44 : decode cX7_send 44 = .ok (.aload_n 0, 1) := by decide +kernel
theorem dX7_send_45 : decode cX7_send 45 = .ok (.getfield 22, 3) := by decide +kernel
theorem dX7_send_48 : decode cX7_send 48 = .ok (.aload_n 0, 1) := by decide +kernel
theorem dX7_send_49 : decode cX7_send 49 = .ok (.getfield 10, 3) := by decide +kernel
theorem dX7_send_52 : decode cX7_send 52 = .ok (.invokevirtual 68, 3) := by decide +kernel
theorem dX7_send_55 : decode cX7_send 55 = .ok (.aload_n 0, 1) := by decide +kernel
theorem dX7_send_56 : decode cX7_send 56 = .ok (.getfield 10, 3) := by decide +kernel
theorem dX7_send_59 : decode cX7_send 59 = .ok (.getfield 84, 3) := by decide +kernel
theorem dX7_send_62 : decode cX7_send 62 = .ok (.iload_n 1, 1) := by decide +kernel
theorem dX7_send_63 : decode cX7_send 63 = .ok (.iload_n 2, 1) := by decide +kernel
theorem dX7_send_64 : decode cX7_send 64 = .ok (.invokevirtual 72, 3) := by decide +kernel
theorem dX7_send_67 : decode cX7_send 67 = .ok (.iload_n 3, 1) := by decide +kernel
theorem dX7_send_68 : decode cX7_send 68 = .ok (.ireturn, 1) := by decide +kernel
set_option maxRecDepth 20000 in
theorem ggX7_send_X2_record : GoodIn wsX7_send wsX2_record := goodIn_r _ [17, 18, 19, 20, 21, 22, 16, 23, 24, 25, 26, 27, 28, 29, 30, 31, 32, 33, 34, 35, 36, 37, 38, 39, 40, 41, 42, 43, 44, 45, 46, 10, 47, 12, 48, 49, 50, 51, 52, 53, 54, 55, 56, 57, 58, 59, 60, 61, 62, 63, 64, 65, 66, 67, 68, 92, 93, 80, 81, 82, 83, 84, 85, 86, 87, 88, 89, 90, 91, 94, 95, 96, 97, 98, 99] (by decide +kernel) (by decide +kernel)
set_option maxRecDepth 20000 in
theorem gX7_send_X2_record : GoodIn wsX7_send (wsV RX7 68 RX2 yX2_record wsX2_record) := goodIn_app (goodIn_of _ (by decide +kernel)) ggX7_send_X2_record
set_option maxRecDepth 20000 in
theorem ggX7_send_X4_get : GoodIn wsX7_send wsX4_get := goodIn_r _ [11, 12, 91] (by decide +kernel) (by decide +kernel)
set_option maxRecDepth 20000 in
theorem gX7_send_X4_get : GoodIn wsX7_send (wsV RX7 62 RX4 yX4_get wsX4_get) := goodIn_app (goodIn_of _ (by decide +kernel)) ggX7_send_X4_get
set_option maxRecDepth 20000 in
theorem ggX7_send_X4_put : GoodIn wsX7_send wsX4_put := goodIn_r _ [72, 12, 91] (by decide +kernel) (by decide +kernel)
set_option maxRecDepth 20000 in
theorem gX7_send_X4_put : GoodIn wsX7_send (wsV RX7 72 RX4 yX4_put wsX4_put) := goodIn_app (goodIn_of _ (by decide +kernel)) ggX7_send_X4_put
set_option maxRecDepth 20000 in
theorem ggX7_send_X7_isBelow : GoodIn wsX7_send wsX7_isBelow := goodIn_r _ [6] (by decide +kernel) (by decide +kernel)
set_option maxRecDepth 20000 in
theorem gX7_send_X7_isBelow : GoodIn wsX7_send (va_wsS RX7 51 yX7_isBelow wsX7_isBelow) := goodIn_app (goodIn_of _ (by decide +kernel)) ggX7_send_X7_isBelow
theorem iX7_send_5 : ∀ w ∈ u_ws RX5 TX5 11, w ∈ wsX7_send := fun w h => List.mem_cons_of_mem _ (List.mem_append_left _ (List.mem_append_left _ (List.mem_append_left _ (List.mem_append_right _ (h)))))
theorem iX7_send_7 : ∀ w ∈ u_ws RX7 TX7 7, w ∈ wsX7_send := fun w h => List.mem_cons_of_mem _ (List.mem_append_left _ (List.mem_append_left _ (List.mem_append_left _ (List.mem_append_left _ (List.mem_append_right _ (h))))))
set_option maxHeartbeats 4000000 in
set_option maxRecDepth 100000 in
theorem c_X7_send {E : EE} {l : Launch} {g : GG} {ad : Nat → Nat} (hg : gwf g) {o0 : Nat} {x1 : Int} {x2 : Int} {M : Mm} {Q : Int → Mm → Prop} (k_o0 : gk g o0 = 7) (h : p_X7_send g o0 x1 x2 M Q) : Ct E l yX7_send wsX7_send rmX7_send g ad [.ref (ad o0), cI x1, cI x2] M (QI E g ad Q) := by
  refine ent (cc := cX7_send) (maxL := 4) (ret := (some .int)) (own := RX7) (by decide +kernel) rfl rfl (Nat.le_of_ble_eq_true rfl) ?_
  intro p e s m below meth c ls X hr hlk K w hl
  have hl : lv_has ls 4 [(0, .ref (ad o0)), (1, cI x1), (2, cI x2)] := hl
  unfold p_X7_send at h
  refine lv_iload_n X.1 X.2.1 dX7_send_0 rfl (lv_at hl 1 rfl) ?_
  refine lv_aload_n X.1 X.2.1 dX7_send_1 rfl (lv_at hl 0 rfl) ?_
  refine r_getr (N := 7) (T := TX7) X K w iX7_send_7 k_o0 rfl (by decide) 0 (by decide) rfl rfl (List.mem_of_getElem? (i := 1) rfl) dX7_send_2 ?_
  have k1 : gk g (o0 + 1) = 5 := gch hg k_o0 (by decide) 0 (by decide) rfl rfl
  refine r_getiN (N := 11) (T := TX5) (kz := 5) X K w iX7_send_5 k1 rfl (by decide) 5 (by decide) rfl rfl rfl (List.mem_of_getElem? (i := 18) rfl) dX7_send_5 ?_
  refine q_i (x_S (As := [cI x1, cI (M (o0 + 1) 5)]) (rest := []) X K w (c_X7_isBelow hg h) (va_cwS 2 X.2.2.2.2 gX7_send_X7_isBelow rfl rfl rfl (by decide +kernel) ⟨Nat.le_of_ble_eq_true rfl, Nat.le_of_ble_eq_true rfl⟩) rfl hl rfl (Nat.le_of_ble_eq_true rfl) dX7_send_8 ⟨Nat.le_of_ble_eq_true rfl, Nat.le_of_ble_eq_true rfl⟩) w (fun r3 M2 H locs h w => ?_)
  obtain ⟨i0, h1, h2⟩ := h
  refine r_if_eq (tgt := 22) X i0 dX7_send_11 (by decide) (fun cc => ?_) (fun cc => ?_)
  · have h := h1 cc
    refine r_iconst X dX7_send_22 ?_
    exact r_ireturn X hr hlk K w h dX7_send_23
  · have h := h2 cc
    refine lv_iload_n X.1 X.2.1 dX7_send_14 rfl (lv_at hl 2 rfl) ?_
    refine r_iconst X dX7_send_15 ?_
    refine q_i (x_S (As := [cI x2, cI 5]) (rest := []) X K w (c_X7_isBelow hg h) (va_cwS 2 X.2.2.2.2 gX7_send_X7_isBelow rfl rfl rfl (by decide +kernel) ⟨Nat.le_of_ble_eq_true rfl, Nat.le_of_ble_eq_true rfl⟩) rfl hl rfl (Nat.le_of_ble_eq_true rfl) dX7_send_16 ⟨Nat.le_of_ble_eq_true rfl, Nat.le_of_ble_eq_true rfl⟩) w (fun r5 M4 H locs h w => ?_)
    obtain ⟨i0, h1, h2⟩ := h
    refine r_if_ne (tgt := 24) X i0 dX7_send_19 (by decide) (fun cc => ?_) (fun cc => ?_)
    · have h := h1 cc
      refine lv_aload_n X.1 X.2.1 dX7_send_24 rfl (lv_at hl 0 rfl) ?_
      refine r_getr (N := 7) (T := TX7) X K w iX7_send_7 k_o0 rfl (by decide) 0 (by decide) rfl rfl (List.mem_of_getElem? (i := 1) rfl) dX7_send_25 ?_
      have k6 : gk g (o0 + 1) = 5 := gch hg k_o0 (by decide) 0 (by decide) rfl rfl
      refine r_getrN (N := 11) (T := TX5) X K w iX7_send_5 k6 rfl (by decide) 3 (by decide) rfl rfl (List.mem_of_getElem? (i := 14) rfl) dX7_send_28 ?_
      have k7 : gk g ((o0 + 1) + 7) = 4 := gch hg k6 (by decide) 3 (by decide) rfl rfl
      refine lv_iload_n X.1 X.2.1 dX7_send_31 rfl (lv_at hl 1 rfl) ?_
      refine q_i (x_V (As := [cI x1]) (rest := []) X K w (c_X4_get hg k7 h) (cwV 1 X.2.2.2.2 gX7_send_X4_get rfl rfl rfl (by decide +kernel) ⟨Nat.le_of_ble_eq_true rfl, Nat.le_of_ble_eq_true rfl⟩) k7 (by decide) rfl rfl hl rfl (Nat.le_of_ble_eq_true rfl) dX7_send_32 ⟨Nat.le_of_ble_eq_true rfl, Nat.le_of_ble_eq_true rfl⟩) w (fun r9 M8 H locs h w => ?_)
      refine lv_istore_n (lv' := [(3, cI r9), (0, .ref (ad o0)), (1, cI x1), (2, cI x2)]) X.1 X.2.1 dX7_send_35 rfl hl (by decide) rfl (fun ls hl => ?_)
      refine lv_iload_n X.1 X.2.1 dX7_send_36 rfl (lv_at hl 0 rfl) ?_
      refine lv_iload_n X.1 X.2.1 dX7_send_37 rfl (lv_at hl 3 rfl) ?_
      obtain ⟨i0, i1, h1, h2⟩ := h
      refine r_icmp_ne (tgt := 44) X i0 i1 dX7_send_38 (by decide) (fun cc => ?_) (fun cc => ?_)
      · have h := h1 cc
        refine lv_aload_n X.1 X.2.1 dX7_send_44 rfl (lv_at hl 1 rfl) ?_
        refine r_getr (N := 7) (T := TX7) X K w iX7_send_7 k_o0 rfl (by decide) 2 (by decide) rfl rfl (List.mem_of_getElem? (i := 2) rfl) dX7_send_45 ?_
        have k10 : gk g (o0 + 37) = 2 := gch hg k_o0 (by decide) 2 (by decide) rfl rfl
        refine lv_aload_n X.1 X.2.1 dX7_send_48 rfl (lv_at hl 1 rfl) ?_
        refine r_getr (N := 7) (T := TX7) X K w iX7_send_7 k_o0 rfl (by decide) 0 (by decide) rfl rfl (List.mem_of_getElem? (i := 1) rfl) dX7_send_49 ?_
        have k11 : gk g (o0 + 1) = 5 := gch hg k_o0 (by decide) 0 (by decide) rfl rfl
        refine q_v (x_V (As := [.ref (ad (o0 + 1))]) (rest := []) X K w (c_X2_record hg k10 k11 h) (cwV 1 X.2.2.2.2 gX7_send_X2_record rfl rfl rfl (by decide +kernel) ⟨Nat.le_of_ble_eq_true rfl, Nat.le_of_ble_eq_true rfl⟩) k10 (by decide) rfl rfl hl rfl (Nat.le_of_ble_eq_true rfl) dX7_send_52 ⟨Nat.le_of_ble_eq_true rfl, Nat.le_of_ble_eq_true rfl⟩) w (fun M12 H locs h w => ?_)
        refine lv_aload_n X.1 X.2.1 dX7_send_55 rfl (lv_at hl 1 rfl) ?_
        refine r_getr (N := 7) (T := TX7) X K w iX7_send_7 k_o0 rfl (by decide) 0 (by decide) rfl rfl (List.mem_of_getElem? (i := 1) rfl) dX7_send_56 ?_
        have k13 : gk g (o0 + 1) = 5 := gch hg k_o0 (by decide) 0 (by decide) rfl rfl
        refine r_getrN (N := 11) (T := TX5) X K w iX7_send_5 k13 rfl (by decide) 3 (by decide) rfl rfl (List.mem_of_getElem? (i := 14) rfl) dX7_send_59 ?_
        have k14 : gk g ((o0 + 1) + 7) = 4 := gch hg k13 (by decide) 3 (by decide) rfl rfl
        refine lv_iload_n X.1 X.2.1 dX7_send_62 rfl (lv_at hl 2 rfl) ?_
        refine lv_iload_n X.1 X.2.1 dX7_send_63 rfl (lv_at hl 3 rfl) ?_
        refine q_v (x_V (As := [cI x1, cI x2]) (rest := []) X K w (c_X4_put hg k14 h) (cwV 2 X.2.2.2.2 gX7_send_X4_put rfl rfl rfl (by decide +kernel) ⟨Nat.le_of_ble_eq_true rfl, Nat.le_of_ble_eq_true rfl⟩) k14 (by decide) rfl rfl hl rfl (Nat.le_of_ble_eq_true rfl) dX7_send_64 ⟨Nat.le_of_ble_eq_true rfl, Nat.le_of_ble_eq_true rfl⟩) w (fun M15 H locs h w => ?_)
        refine lv_iload_n X.1 X.2.1 dX7_send_67 rfl (lv_at hl 0 rfl) ?_
        exact r_ireturn X hr hlk K w h dX7_send_68
      · have h := h2 cc
        refine r_bipush X dX7_send_41 (by decide +kernel) ?_
        exact r_ireturn X hr hlk K w h dX7_send_43
    · have h := h2 cc
      refine r_iconst X dX7_send_22 ?_
      exact r_ireturn X hr hlk K w h dX7_send_23
theorem dX7_setCarrying_0 : decode cX7_setCarrying 0 = .ok (.iload_n 1, 1) := by decide +kernel
theorem dX7_setCarrying_1 : decode cX7_setCarrying 1 = .ok (.iconst 0, 1) := by decide +kernel
theorem dX7_setCarrying_2 : decode cX7_setCarrying 2 = .ok (.bipush 20, 2) := by decide +kernel
theorem dX7_setCarrying_4 : decode cX7_setCarrying 4 = .ok (.invokestatic 76, 3) := by decide +kernel
theorem dX7_setCarrying_7 : decode cX7_setCarrying 7 = .ok (.ifCond .ne 6, 3) := by decide +kernel
theorem dX7_setCarrying_10 : decode cX7_setCarrying 10 = .ok (.bipush (-2), 2) := by decide +kernel
theorem dX7_setCarrying_12 : decode cX7_setCarrying 12 = .ok (.ireturn, 1) := by decide +kernel
theorem dX7_setCarrying_13 : decode cX7_setCarrying 13 = .ok (.aload_n 0, 1) := by decide +kernel
theorem dX7_setCarrying_14 : decode cX7_setCarrying 14 = .ok (.getfield 10, 3) := by decide +kernel
theorem dX7_setCarrying_17 : decode cX7_setCarrying 17 = .ok (.getfield 88, 3) := by decide +kernel
theorem dX7_setCarrying_20 : decode cX7_setCarrying 20 = .ok (.istore_n 2, 1) := by decide +kernel
theorem dX7_setCarrying_21 : decode cX7_setCarrying 21 = .ok (.iload_n 2, 1) := by decide +kernel
theorem dX7_setCarrying_22 : decode cX7_setCarrying 22 = .ok (.iload_n 1, 1) := by decide +kernel
theorem dX7_setCarrying_23 : decode cX7_setCarrying 23 = .ok (.if_icmp .ne 6, 3) := by decide +kernel
theorem dX7_setCarrying_26 : decode cX7_setCarrying 26 = .ok (.bipush (-5), 2) := by decide +kernel
theorem dX7_setCarrying_28 : decode cX7_setCarrying 28 = .ok (.ireturn, 1) := by decide +kernel
theorem dX7_setCarrying_29 : decode cX7_setCarrying 29 = .ok (.aload_n 0, 1) := by decide +kernel
theorem dX7_setCarrying_30 : decode cX7_setCarrying 30 = .ok (.getfield 22, 3) := by decide +kernel
theorem dX7_setCarrying_33 : decode cX7_setCarrying 33 = .ok (.aload_n 0, 1) := by decide +kernel
theorem dX7_setCarrying_34 : decode cX7_setCarrying 34 = .ok (.getfield 10, 3) := by decide +kernel
theorem dX7_setCarrying_37 : decode cX7_setCarrying 37 = .ok (.invokevirtual 68, 3) := by decide +kernel
theorem dX7_setCarrying_40 : decode cX7_setCarrying 40 = .ok (.aload_n 0, 1) := by decide +kernel
theorem dX7_setCarrying_41 : decode cX7_setCarrying 41 = .ok (.getfield 10, 3) := by decide +kernel
theorem dX7_setCarrying_44 : decode cX7_setCarrying 44 = .ok (.iload_n 1, 1) := by decide +kernel
theorem dX7_setCarrying_45 : decode cX7_setCarrying 45 = .ok (.putfield 88, 3) := by decide +kernel
theorem dX7_setCarrying_48 : decode cX7_setCarrying 48 = .ok (.iload_n 2, 1) := by decide +kernel
theorem dX7_setCarrying_49 : decode cX7_setCarrying 49 = .ok (.ireturn, 1) := by decide +kernel
set_option maxRecDepth 20000 in
theorem ggX7_setCarrying_X2_record : GoodIn wsX7_setCarrying wsX2_record := goodIn_r _ [11, 12, 13, 14, 15, 16, 10, 17, 18, 19, 20, 21, 22, 23, 24, 25, 26, 27, 28, 29, 30, 31, 32, 33, 34, 35, 36, 37, 38, 39, 40, 41, 42, 43, 44, 45, 46, 47, 48, 49, 50, 51, 52, 53, 54, 55, 56, 57, 58, 59, 60, 61, 62, 63, 64, 83, 84, 72, 73, 74, 75, 76, 77, 78, 79, 80, 81, 82, 85, 86, 87, 88, 89, 90, 91] (by decide +kernel) (by decide +kernel)
set_option maxRecDepth 20000 in
theorem gX7_setCarrying_X2_record : GoodIn wsX7_setCarrying (wsV RX7 68 RX2 yX2_record wsX2_record) := goodIn_app (goodIn_of _ (by decide +kernel)) ggX7_setCarrying_X2_record
set_option maxRecDepth 20000 in
theorem ggX7_setCarrying_X7_isWithin : GoodIn wsX7_setCarrying wsX7_isWithin := goodIn_r _ [6] (by decide +kernel) (by decide +kernel)
set_option maxRecDepth 20000 in
theorem gX7_setCarrying_X7_isWithin : GoodIn wsX7_setCarrying (va_wsS RX7 76 yX7_isWithin wsX7_isWithin) := goodIn_app (goodIn_of _ (by decide +kernel)) ggX7_setCarrying_X7_isWithin
theorem iX7_setCarrying_5 : ∀ w ∈ u_ws RX5 TX5 11, w ∈ wsX7_setCarrying := fun w h => List.mem_cons_of_mem _ (List.mem_append_left _ (List.mem_append_left _ (List.mem_append_left _ (List.mem_append_right _ (h)))))
theorem iX7_setCarrying_7 : ∀ w ∈ u_ws RX7 TX7 7, w ∈ wsX7_setCarrying := fun w h => List.mem_cons_of_mem _ (List.mem_append_left _ (List.mem_append_left _ (List.mem_append_left _ (List.mem_append_left _ (List.mem_append_right _ (h))))))
set_option maxHeartbeats 4000000 in
set_option maxRecDepth 100000 in
theorem c_X7_setCarrying {E : EE} {l : Launch} {g : GG} {ad : Nat → Nat} (hg : gwf g) {o0 : Nat} {x1 : Int} {M : Mm} {Q : Int → Mm → Prop} (k_o0 : gk g o0 = 7) (h : p_X7_setCarrying g o0 x1 M Q) : Ct E l yX7_setCarrying wsX7_setCarrying rmX7_setCarrying g ad [.ref (ad o0), cI x1] M (QI E g ad Q) := by
  refine ent (cc := cX7_setCarrying) (maxL := 3) (ret := (some .int)) (own := RX7) (by decide +kernel) rfl rfl (Nat.le_of_ble_eq_true rfl) ?_
  intro p e s m below meth c ls X hr hlk K w hl
  have hl : lv_has ls 3 [(0, .ref (ad o0)), (1, cI x1)] := hl
  unfold p_X7_setCarrying at h
  refine lv_iload_n X.1 X.2.1 dX7_setCarrying_0 rfl (lv_at hl 1 rfl) ?_
  refine r_iconst X dX7_setCarrying_1 ?_
  refine r_bipush X dX7_setCarrying_2 (by decide +kernel) ?_
  refine q_i (x_S (As := [cI x1, cI 0, cI 20]) (rest := []) X K w (c_X7_isWithin hg h) (va_cwS 3 X.2.2.2.2 gX7_setCarrying_X7_isWithin rfl rfl rfl (by decide +kernel) ⟨Nat.le_of_ble_eq_true rfl, Nat.le_of_ble_eq_true rfl⟩) rfl hl rfl (Nat.le_of_ble_eq_true rfl) dX7_setCarrying_4 ⟨Nat.le_of_ble_eq_true rfl, Nat.le_of_ble_eq_true rfl⟩) w (fun r2 M1 H locs h w => ?_)
  obtain ⟨i0, h1, h2⟩ := h
  refine r_if_ne (tgt := 13) X i0 dX7_setCarrying_7 (by decide) (fun cc => ?_) (fun cc => ?_)
  · have h := h1 cc
    refine lv_aload_n X.1 X.2.1 dX7_setCarrying_13 rfl (lv_at hl 0 rfl) ?_
    refine r_getr (N := 7) (T := TX7) X K w iX7_setCarrying_7 k_o0 rfl (by decide) 0 (by decide) rfl rfl (List.mem_of_getElem? (i := 1) rfl) dX7_setCarrying_14 ?_
    have k3 : gk g (o0 + 1) = 5 := gch hg k_o0 (by decide) 0 (by decide) rfl rfl
    refine r_getiN (N := 11) (T := TX5) (kz := 6) X K w iX7_setCarrying_5 k3 rfl (by decide) 6 (by decide) rfl rfl rfl (List.mem_of_getElem? (i := 19) rfl) dX7_setCarrying_17 ?_
    refine lv_istore_n (lv' := [(2, cI (M1 (o0 + 1) 6)), (0, .ref (ad o0)), (1, cI x1)]) X.1 X.2.1 dX7_setCarrying_20 rfl hl (by decide) rfl (fun ls hl => ?_)
    refine lv_iload_n X.1 X.2.1 dX7_setCarrying_21 rfl (lv_at hl 0 rfl) ?_
    refine lv_iload_n X.1 X.2.1 dX7_setCarrying_22 rfl (lv_at hl 2 rfl) ?_
    obtain ⟨i0, i1, h1, h2⟩ := h
    refine r_icmp_ne (tgt := 29) X i0 i1 dX7_setCarrying_23 (by decide) (fun cc => ?_) (fun cc => ?_)
    · have h := h1 cc
      refine lv_aload_n X.1 X.2.1 dX7_setCarrying_29 rfl (lv_at hl 1 rfl) ?_
      refine r_getr (N := 7) (T := TX7) X K w iX7_setCarrying_7 k_o0 rfl (by decide) 2 (by decide) rfl rfl (List.mem_of_getElem? (i := 2) rfl) dX7_setCarrying_30 ?_
      have k4 : gk g (o0 + 37) = 2 := gch hg k_o0 (by decide) 2 (by decide) rfl rfl
      refine lv_aload_n X.1 X.2.1 dX7_setCarrying_33 rfl (lv_at hl 1 rfl) ?_
      refine r_getr (N := 7) (T := TX7) X K w iX7_setCarrying_7 k_o0 rfl (by decide) 0 (by decide) rfl rfl (List.mem_of_getElem? (i := 1) rfl) dX7_setCarrying_34 ?_
      have k5 : gk g (o0 + 1) = 5 := gch hg k_o0 (by decide) 0 (by decide) rfl rfl
      refine q_v (x_V (As := [.ref (ad (o0 + 1))]) (rest := []) X K w (c_X2_record hg k4 k5 h) (cwV 1 X.2.2.2.2 gX7_setCarrying_X2_record rfl rfl rfl (by decide +kernel) ⟨Nat.le_of_ble_eq_true rfl, Nat.le_of_ble_eq_true rfl⟩) k4 (by decide) rfl rfl hl rfl (Nat.le_of_ble_eq_true rfl) dX7_setCarrying_37 ⟨Nat.le_of_ble_eq_true rfl, Nat.le_of_ble_eq_true rfl⟩) w (fun M6 H locs h w => ?_)
      refine lv_aload_n X.1 X.2.1 dX7_setCarrying_40 rfl (lv_at hl 1 rfl) ?_
      refine r_getr (N := 7) (T := TX7) X K w iX7_setCarrying_7 k_o0 rfl (by decide) 0 (by decide) rfl rfl (List.mem_of_getElem? (i := 1) rfl) dX7_setCarrying_41 ?_
      have k7 : gk g (o0 + 1) = 5 := gch hg k_o0 (by decide) 0 (by decide) rfl rfl
      refine lv_iload_n X.1 X.2.1 dX7_setCarrying_44 rfl (lv_at hl 2 rfl) ?_
      refine r_putiN (N := 11) (T := TX5) (kz := 6) (ty := .int) X K w iX7_setCarrying_5 tyX5 tyX5_ok nmX5 k7 rfl (by decide) 6 (by decide) rfl rfl rfl rfl (by decide +kernel) rfl rfl (List.mem_of_getElem? (i := 19) rfl) dX7_setCarrying_45 (fun M8 H locs e w => ?_)
      replace h := h M8 e
      refine lv_iload_n X.1 X.2.1 dX7_setCarrying_48 rfl (lv_at hl 0 rfl) ?_
      exact r_ireturn X hr hlk K w h dX7_setCarrying_49
    · have h := h2 cc
      refine r_bipush X dX7_setCarrying_26 (by decide +kernel) ?_
      exact r_ireturn X hr hlk K w h dX7_setCarrying_28
  · have h := h2 cc
    refine r_bipush X dX7_setCarrying_10 (by decide +kernel) ?_
    exact r_ireturn X hr hlk K w h dX7_setCarrying_12
theorem dX7_readCues_0 : decode cX7_readCues 0 = .ok (.aload_n 0, 1) := by decide +kernel
theorem dX7_readCues_1 : decode cX7_readCues 1 = .ok (.getfield 36, 3) := by decide +kernel
theorem dX7_readCues_4 : decode cX7_readCues 4 = .ok (.aload_n 0, 1) := by decide +kernel
theorem dX7_readCues_5 : decode cX7_readCues 5 = .ok (.getfield 10, 3) := by decide +kernel
theorem dX7_readCues_8 : decode cX7_readCues 8 = .ok (.getfield 91, 3) := by decide +kernel
theorem dX7_readCues_11 : decode cX7_readCues 11 = .ok (.aload_n 0, 1) := by decide +kernel
theorem dX7_readCues_12 : decode cX7_readCues 12 = .ok (.getfield 29, 3) := by decide +kernel
theorem dX7_readCues_15 : decode cX7_readCues 15 = .ok (.invokevirtual 95, 3) := by decide +kernel
theorem dX7_readCues_18 : decode cX7_readCues 18 = .ok (.aload_n 0, 1) := by decide +kernel
theorem dX7_readCues_19 : decode cX7_readCues 19 = .ok (.getfield 36, 3) := by decide +kernel
theorem dX7_readCues_22 : decode cX7_readCues 22 = .ok (.getfield 99, 3) := by decide +kernel
theorem dX7_readCues_25 : decode cX7_readCues 25 = .ok (.ifCond .eq 14, 3) := by decide +kernel
theorem dX7_readCues_28 : decode cX7_readCues 28 = .ok (.bipush (-100), 2) := by decide +kernel
theorem dX7_readCues_30 : decode cX7_readCues 30 = .ok (.aload_n 0, 1) := by decide +kernel
theorem dX7_readCues_31 : decode cX7_readCues 31 = .ok (.getfield 36, 3) := by decide +kernel
theorem dX7_readCues_34 : decode cX7_readCues 34 = .ok (.getfield 102, 3) := by decide +kernel
theorem dX7_readCues_37 : decode cX7_readCues 37 = .ok (.isub, 1) := by decide +kernel
theorem dX7_readCues_38 : decode cX7_readCues 38 = .ok (.ireturn, 1) := by decide +kernel
theorem dX7_readCues_39 : decode cX7_readCues 39 = .ok (.aload_n 0, 1) := by decide +kernel
theorem dX7_readCues_40 : decode cX7_readCues 40 = .ok (.getfield 36, 3) := by decide +kernel
theorem dX7_readCues_43 : decode cX7_readCues 43 = .ok (.getfield 105, 3) := by decide +kernel
theorem dX7_readCues_46 : decode cX7_readCues 46 = .ok (.ifCond .eq 6, 3) := by decide +kernel
theorem dX7_readCues_49 : decode cX7_readCues 49 = .ok (.bipush (-4), 2) := by decide +kernel
theorem dX7_readCues_51 : decode cX7_readCues 51 = .ok (.ireturn, 1) := by decide +kernel
theorem dX7_readCues_52 : decode cX7_readCues 52 = .ok (.aload_n 0, 1) := by decide +kernel
theorem dX7_readCues_53 : decode cX7_readCues 53 = .ok (.getfield 36, 3) := by decide +kernel
theorem dX7_readCues_56 : decode cX7_readCues 56 = .ok (.getfield 108, 3) := by decide +kernel
theorem dX7_readCues_59 : decode cX7_readCues 59 = .ok (.getfield 111, 3) := by decide +kernel
theorem dX7_readCues_62 : decode cX7_readCues 62 = .ok (.bipush 40, 2) := by decide +kernel
theorem dX7_readCues_64 : decode cX7_readCues 64 = .ok (.if_icmp .le 6, 3) := by decide +kernel
theorem dX7_readCues_67 : decode cX7_readCues 67 = .ok (.bipush (-3), 2) := by decide +kernel
theorem dX7_readCues_69 : decode cX7_readCues 69 = .ok (.ireturn, 1) := by decide +kernel
theorem dX7_readCues_70 : decode cX7_readCues 70 = .ok (.aload_n 0, 1) := by decide +kernel
theorem dX7_readCues_71 : decode cX7_readCues 71 = .ok (.getfield 22, 3) := by decide +kernel
theorem dX7_readCues_74 : decode cX7_readCues 74 = .ok (.aload_n 0, 1) := by decide +kernel
theorem dX7_readCues_75 : decode cX7_readCues 75 = .ok (.getfield 10, 3) := by decide +kernel
theorem dX7_readCues_78 : decode cX7_readCues 78 = .ok (.invokevirtual 68, 3) := by decide +kernel
theorem dX7_readCues_81 : decode cX7_readCues 81 = .ok (.aload_n 0, 1) := by decide +kernel
theorem dX7_readCues_82 : decode cX7_readCues 82 = .ok (.getfield 10, 3) := by decide +kernel
theorem dX7_readCues_85 : decode cX7_readCues 85 = .ok (.getfield 91, 3) := by decide +kernel
theorem dX7_readCues_88 : decode cX7_readCues 88 = .ok (.aload_n 0, 1) := by decide +kernel
theorem dX7_readCues_89 : decode cX7_readCues 89 = .ok (.getfield 36, 3) := by decide +kernel
theorem dX7_readCues_92 : decode cX7_readCues 92 = .ok (.getfield 108, 3) := by decide +kernel
theorem dX7_readCues_95 : decode cX7_readCues 95 = .ok (.invokevirtual 116, 3) := by decide +kernel
theorem dX7_readCues_98 : decode cX7_readCues 98 = .ok (.aload_n 0, 1) := by decide +kernel
theorem dX7_readCues_99 : decode cX7_readCues 99 = .ok (.getfield 10, 3) := by decide +kernel
theorem dX7_readCues_102 : decode cX7_readCues 102 = .ok (.getfield 91, 3) := by decide +kernel
theorem dX7_readCues_105 : decode cX7_readCues 105 = .ok (.getfield 111, 3) := by decide +kernel
theorem dX7_readCues_108 : decode cX7_readCues 108 = .ok (.ireturn, 1) := by decide +kernel
set_option maxRecDepth 20000 in
theorem ggX7_readCues_X0_copyFrom : GoodIn wsX7_readCues wsX0_copyFrom := goodIn_r _ [18, 19, 20, 21, 22, 23, 24, 25, 26, 27, 28, 29, 30, 31, 32, 33, 34, 35, 36, 37, 38, 39, 166, 167, 168, 169, 170, 171, 174] (by decide +kernel) (by decide +kernel)
set_option maxRecDepth 20000 in
theorem gX7_readCues_X0_copyFrom : GoodIn wsX7_readCues (wsV RX7 116 RX0 yX0_copyFrom wsX0_copyFrom) := goodIn_app (goodIn_of _ (by decide +kernel)) ggX7_readCues_X0_copyFrom
set_option maxRecDepth 20000 in
theorem ggX7_readCues_X1_readBehind : GoodIn wsX7_readCues wsX1_readBehind := goodIn_r _ [9, 10, 11, 12, 13, 14, 15, 16, 17, 18, 19, 20, 21, 22, 23, 24, 25, 26, 27, 28, 29, 30, 31, 32, 33, 34, 35, 36, 37, 38, 39, 40, 41, 42, 8, 43, 44, 45, 46, 47, 48, 49, 50, 51, 52, 53, 54, 55, 56, 57, 58, 59, 60, 61, 62, 63, 64, 65, 66, 67, 68, 69, 70, 71, 72, 73, 74, 75, 76, 77, 78, 79, 80, 81, 82, 83, 84, 85, 86, 87, 88, 89, 90, 91, 92, 93, 94, 95, 96, 97, 98, 99, 100, 101, 102, 103, 104, 105, 106, 107, 108, 109, 162, 163, 164, 165, 172, 173, 166, 167, 168, 169, 170, 171, 174] (by decide +kernel) (by decide +kernel)
set_option maxRecDepth 20000 in
theorem gX7_readCues_X1_readBehind : GoodIn wsX7_readCues (wsV RX7 95 RX1 yX1_readBehind wsX1_readBehind) := goodIn_app (goodIn_of _ (by decide +kernel)) ggX7_readCues_X1_readBehind
set_option maxRecDepth 20000 in
theorem ggX7_readCues_X2_record : GoodIn wsX7_readCues wsX2_record := goodIn_r _ [114, 115, 116, 117, 118, 119, 113, 120, 121, 122, 123, 124, 125, 126, 127, 128, 129, 130, 131, 132, 133, 134, 135, 136, 137, 138, 139, 140, 141, 30, 31, 32, 33, 34, 35, 26, 27, 28, 36, 37, 38, 39, 142, 15, 16, 17, 18, 19, 20, 21, 22, 23, 24, 25, 29, 175, 176, 151, 152, 153, 154, 155, 156, 157, 158, 159, 160, 161, 174, 166, 167, 168, 169, 170, 171] (by decide +kernel) (by decide +kernel)
set_option maxRecDepth 20000 in
theorem gX7_readCues_X2_record : GoodIn wsX7_readCues (wsV RX7 68 RX2 yX2_record wsX2_record) := goodIn_app (goodIn_of _ (by decide +kernel)) ggX7_readCues_X2_record
theorem iX7_readCues_0 : ∀ w ∈ u_ws RX0 TX0 6, w ∈ wsX7_readCues := fun w h => List.mem_cons_of_mem _ (List.mem_append_left _ (List.mem_append_left _ (List.mem_append_left _ (List.mem_append_right _ (h)))))
theorem iX7_readCues_1 : ∀ w ∈ u_ws RX1 TX1 4, w ∈ wsX7_readCues := fun w h => List.mem_cons_of_mem _ (List.mem_append_left _ (List.mem_append_left _ (List.mem_append_left _ (List.mem_append_left _ (List.mem_append_right _ (h))))))
theorem iX7_readCues_5 : ∀ w ∈ u_ws RX5 TX5 11, w ∈ wsX7_readCues := fun w h => List.mem_cons_of_mem _ (List.mem_append_left _ (List.mem_append_left _ (List.mem_append_left _ (List.mem_append_left _ (List.mem_append_left _ (List.mem_append_right _ (h)))))))
theorem iX7_readCues_7 : ∀ w ∈ u_ws RX7 TX7 7, w ∈ wsX7_readCues := fun w h => List.mem_cons_of_mem _ (List.mem_append_left _ (List.mem_append_left _ (List.mem_append_left _ (List.mem_append_left _ (List.mem_append_left _ (List.mem_append_left _ (List.mem_append_right _ (h))))))))
set_option maxHeartbeats 4000000 in
set_option maxRecDepth 100000 in
theorem c_X7_readCues {E : EE} {l : Launch} {g : GG} {ad : Nat → Nat} (hg : gwf g) {o0 : Nat} {M : Mm} {Q : Int → Mm → Prop} (k_o0 : gk g o0 = 7) (h : p_X7_readCues g o0 M Q) : Ct E l yX7_readCues wsX7_readCues rmX7_readCues g ad [.ref (ad o0)] M (QI E g ad Q) := by
  refine ent (cc := cX7_readCues) (maxL := 1) (ret := (some .int)) (own := RX7) (by decide +kernel) rfl rfl (Nat.le_of_ble_eq_true rfl) ?_
  intro p e s m below meth c ls X hr hlk K w hl
  have hl : lv_has ls 1 [(0, .ref (ad o0))] := hl
  unfold p_X7_readCues at h
  refine lv_aload_n X.1 X.2.1 dX7_readCues_0 rfl (lv_at hl 0 rfl) ?_
  refine r_getr (N := 7) (T := TX7) X K w iX7_readCues_7 k_o0 rfl (by decide) 4 (by decide) rfl rfl (List.mem_of_getElem? (i := 1) rfl) dX7_readCues_1 ?_
  have k1 : gk g (o0 + 114) = 1 := gch hg k_o0 (by decide) 4 (by decide) rfl rfl
  refine lv_aload_n X.1 X.2.1 dX7_readCues_4 rfl (lv_at hl 0 rfl) ?_
  refine r_getr (N := 7) (T := TX7) X K w iX7_readCues_7 k_o0 rfl (by decide) 0 (by decide) rfl rfl (List.mem_of_getElem? (i := 2) rfl) dX7_readCues_5 ?_
  have k2 : gk g (o0 + 1) = 5 := gch hg k_o0 (by decide) 0 (by decide) rfl rfl
  refine r_getrN (N := 11) (T := TX5) X K w iX7_readCues_5 k2 rfl (by decide) 4 (by decide) rfl rfl (List.mem_of_getElem? (i := 16) rfl) dX7_readCues_8 ?_
  have k3 : gk g ((o0 + 1) + 9) = 0 := gch hg k2 (by decide) 4 (by decide) rfl rfl
  refine lv_aload_n X.1 X.2.1 dX7_readCues_11 rfl (lv_at hl 0 rfl) ?_
  refine r_getr (N := 7) (T := TX7) X K w iX7_readCues_7 k_o0 rfl (by decide) 3 (by decide) rfl rfl (List.mem_of_getElem? (i := 3) rfl) dX7_readCues_12 ?_
  have k4 : gk g (o0 + 111) = 6 := gch hg k_o0 (by decide) 3 (by decide) rfl rfl
  refine q_v (x_V (As := [.ref (ad ((o0 + 1) + 9)), .ref (ad (o0 + 111))]) (rest := []) X K w (c_X1_readBehind hg k1 k3 k4 h) (cwV 2 X.2.2.2.2 gX7_readCues_X1_readBehind rfl rfl rfl (by decide +kernel) ⟨Nat.le_of_ble_eq_true rfl, Nat.le_of_ble_eq_true rfl⟩) k1 (by decide) rfl rfl hl rfl (Nat.le_of_ble_eq_true rfl) dX7_readCues_15 ⟨Nat.le_of_ble_eq_true rfl, Nat.le_of_ble_eq_true rfl⟩) w (fun M5 H locs h w => ?_)
  refine lv_aload_n X.1 X.2.1 dX7_readCues_18 rfl (lv_at hl 0 rfl) ?_
  refine r_getr (N := 7) (T := TX7) X K w iX7_readCues_7 k_o0 rfl (by decide) 4 (by decide) rfl rfl (List.mem_of_getElem? (i := 1) rfl) dX7_readCues_19 ?_
  have k6 : gk g (o0 + 114) = 1 := gch hg k_o0 (by decide) 4 (by decide) rfl rfl
  refine r_getiN (N := 4) (T := TX1) (kz := 2) X K w iX7_readCues_1 k6 rfl (by decide) 2 (by decide) rfl rfl rfl (List.mem_of_getElem? (i := 30) rfl) dX7_readCues_22 ?_
  obtain ⟨i0, h1, h2⟩ := h
  refine r_if_eq (tgt := 39) X i0 dX7_readCues_25 (by decide) (fun cc => ?_) (fun cc => ?_)
  · have h := h1 cc
    refine lv_aload_n X.1 X.2.1 dX7_readCues_39 rfl (lv_at hl 0 rfl) ?_
    refine r_getr (N := 7) (T := TX7) X K w iX7_readCues_7 k_o0 rfl (by decide) 4 (by decide) rfl rfl (List.mem_of_getElem? (i := 1) rfl) dX7_readCues_40 ?_
    have k7 : gk g (o0 + 114) = 1 := gch hg k_o0 (by decide) 4 (by decide) rfl rfl
    refine r_getiN (N := 4) (T := TX1) (kz := 3) X K w iX7_readCues_1 k7 rfl (by decide) 3 (by decide) rfl rfl rfl (List.mem_of_getElem? (i := 31) rfl) dX7_readCues_43 ?_
    obtain ⟨i0, h1, h2⟩ := h
    refine r_if_eq (tgt := 52) X i0 dX7_readCues_46 (by decide) (fun cc => ?_) (fun cc => ?_)
    · have h := h1 cc
      refine lv_aload_n X.1 X.2.1 dX7_readCues_52 rfl (lv_at hl 0 rfl) ?_
      refine r_getr (N := 7) (T := TX7) X K w iX7_readCues_7 k_o0 rfl (by decide) 4 (by decide) rfl rfl (List.mem_of_getElem? (i := 1) rfl) dX7_readCues_53 ?_
      have k8 : gk g (o0 + 114) = 1 := gch hg k_o0 (by decide) 4 (by decide) rfl rfl
      refine r_getrN (N := 4) (T := TX1) X K w iX7_readCues_1 k8 rfl (by decide) 0 (by decide) rfl rfl (List.mem_of_getElem? (i := 28) rfl) dX7_readCues_56 ?_
      have k9 : gk g ((o0 + 114) + 1) = 0 := gch hg k8 (by decide) 0 (by decide) rfl rfl
      refine r_getiN (N := 6) (T := TX0) (kz := 5) X K w iX7_readCues_0 k9 rfl (by decide) 5 (by decide) rfl rfl rfl (List.mem_of_getElem? (i := 8) rfl) dX7_readCues_59 ?_
      refine r_bipush X dX7_readCues_62 (by decide +kernel) ?_
      obtain ⟨i0, h1, h2⟩ := h
      refine r_icmp_le (tgt := 70) X i0 ⟨by decide, by decide⟩ dX7_readCues_64 (by decide) (fun cc => ?_) (fun cc => ?_)
      · have h := h1 cc
        refine lv_aload_n X.1 X.2.1 dX7_readCues_70 rfl (lv_at hl 0 rfl) ?_
        refine r_getr (N := 7) (T := TX7) X K w iX7_readCues_7 k_o0 rfl (by decide) 2 (by decide) rfl rfl (List.mem_of_getElem? (i := 4) rfl) dX7_readCues_71 ?_
        have k10 : gk g (o0 + 37) = 2 := gch hg k_o0 (by decide) 2 (by decide) rfl rfl
        refine lv_aload_n X.1 X.2.1 dX7_readCues_74 rfl (lv_at hl 0 rfl) ?_
        refine r_getr (N := 7) (T := TX7) X K w iX7_readCues_7 k_o0 rfl (by decide) 0 (by decide) rfl rfl (List.mem_of_getElem? (i := 2) rfl) dX7_readCues_75 ?_
        have k11 : gk g (o0 + 1) = 5 := gch hg k_o0 (by decide) 0 (by decide) rfl rfl
        refine q_v (x_V (As := [.ref (ad (o0 + 1))]) (rest := []) X K w (c_X2_record hg k10 k11 h) (cwV 1 X.2.2.2.2 gX7_readCues_X2_record rfl rfl rfl (by decide +kernel) ⟨Nat.le_of_ble_eq_true rfl, Nat.le_of_ble_eq_true rfl⟩) k10 (by decide) rfl rfl hl rfl (Nat.le_of_ble_eq_true rfl) dX7_readCues_78 ⟨Nat.le_of_ble_eq_true rfl, Nat.le_of_ble_eq_true rfl⟩) w (fun M12 H locs h w => ?_)
        refine lv_aload_n X.1 X.2.1 dX7_readCues_81 rfl (lv_at hl 0 rfl) ?_
        refine r_getr (N := 7) (T := TX7) X K w iX7_readCues_7 k_o0 rfl (by decide) 0 (by decide) rfl rfl (List.mem_of_getElem? (i := 2) rfl) dX7_readCues_82 ?_
        have k13 : gk g (o0 + 1) = 5 := gch hg k_o0 (by decide) 0 (by decide) rfl rfl
        refine r_getrN (N := 11) (T := TX5) X K w iX7_readCues_5 k13 rfl (by decide) 4 (by decide) rfl rfl (List.mem_of_getElem? (i := 16) rfl) dX7_readCues_85 ?_
        have k14 : gk g ((o0 + 1) + 9) = 0 := gch hg k13 (by decide) 4 (by decide) rfl rfl
        refine lv_aload_n X.1 X.2.1 dX7_readCues_88 rfl (lv_at hl 0 rfl) ?_
        refine r_getr (N := 7) (T := TX7) X K w iX7_readCues_7 k_o0 rfl (by decide) 4 (by decide) rfl rfl (List.mem_of_getElem? (i := 1) rfl) dX7_readCues_89 ?_
        have k15 : gk g (o0 + 114) = 1 := gch hg k_o0 (by decide) 4 (by decide) rfl rfl
        refine r_getrN (N := 4) (T := TX1) X K w iX7_readCues_1 k15 rfl (by decide) 0 (by decide) rfl rfl (List.mem_of_getElem? (i := 28) rfl) dX7_readCues_92 ?_
        have k16 : gk g ((o0 + 114) + 1) = 0 := gch hg k15 (by decide) 0 (by decide) rfl rfl
        refine q_v (x_V (As := [.ref (ad ((o0 + 114) + 1))]) (rest := []) X K w (c_X0_copyFrom hg k14 k16 h) (cwV 1 X.2.2.2.2 gX7_readCues_X0_copyFrom rfl rfl rfl (by decide +kernel) ⟨Nat.le_of_ble_eq_true rfl, Nat.le_of_ble_eq_true rfl⟩) k14 (by decide) rfl rfl hl rfl (Nat.le_of_ble_eq_true rfl) dX7_readCues_95 ⟨Nat.le_of_ble_eq_true rfl, Nat.le_of_ble_eq_true rfl⟩) w (fun M17 H locs h w => ?_)
        refine lv_aload_n X.1 X.2.1 dX7_readCues_98 rfl (lv_at hl 0 rfl) ?_
        refine r_getr (N := 7) (T := TX7) X K w iX7_readCues_7 k_o0 rfl (by decide) 0 (by decide) rfl rfl (List.mem_of_getElem? (i := 2) rfl) dX7_readCues_99 ?_
        have k18 : gk g (o0 + 1) = 5 := gch hg k_o0 (by decide) 0 (by decide) rfl rfl
        refine r_getrN (N := 11) (T := TX5) X K w iX7_readCues_5 k18 rfl (by decide) 4 (by decide) rfl rfl (List.mem_of_getElem? (i := 16) rfl) dX7_readCues_102 ?_
        have k19 : gk g ((o0 + 1) + 9) = 0 := gch hg k18 (by decide) 4 (by decide) rfl rfl
        refine r_getiN (N := 6) (T := TX0) (kz := 5) X K w iX7_readCues_0 k19 rfl (by decide) 5 (by decide) rfl rfl rfl (List.mem_of_getElem? (i := 8) rfl) dX7_readCues_105 ?_
        exact r_ireturn X hr hlk K w h dX7_readCues_108
      · have h := h2 cc
        refine r_bipush X dX7_readCues_67 (by decide +kernel) ?_
        exact r_ireturn X hr hlk K w h dX7_readCues_69
    · have h := h2 cc
      refine r_bipush X dX7_readCues_49 (by decide +kernel) ?_
      exact r_ireturn X hr hlk K w h dX7_readCues_51
  · have h := h2 cc
    refine r_bipush X dX7_readCues_28 (by decide +kernel) ?_
    refine lv_aload_n X.1 X.2.1 dX7_readCues_30 rfl (lv_at hl 0 rfl) ?_
    refine r_getr (N := 7) (T := TX7) X K w iX7_readCues_7 k_o0 rfl (by decide) 4 (by decide) rfl rfl (List.mem_of_getElem? (i := 1) rfl) dX7_readCues_31 ?_
    have k20 : gk g (o0 + 114) = 1 := gch hg k_o0 (by decide) 4 (by decide) rfl rfl
    refine r_getiN (N := 4) (T := TX1) (kz := 1) X K w iX7_readCues_1 k20 rfl (by decide) 1 (by decide) rfl rfl rfl (List.mem_of_getElem? (i := 29) rfl) dX7_readCues_34 ?_
    refine r_isub X dX7_readCues_37 ?_
    exact r_ireturn X hr hlk K w h dX7_readCues_38
theorem dX7_removeCue_0 : decode cX7_removeCue 0 = .ok (.iload_n 1, 1) := by decide +kernel
theorem dX7_removeCue_1 : decode cX7_removeCue 1 = .ok (.aload_n 0, 1) := by decide +kernel
theorem dX7_removeCue_2 : decode cX7_removeCue 2 = .ok (.getfield 10, 3) := by decide +kernel
theorem dX7_removeCue_5 : decode cX7_removeCue 5 = .ok (.getfield 91, 3) := by decide +kernel
theorem dX7_removeCue_8 : decode cX7_removeCue 8 = .ok (.getfield 111, 3) := by decide +kernel
theorem dX7_removeCue_11 : decode cX7_removeCue 11 = .ok (.invokestatic 51, 3) := by decide +kernel
theorem dX7_removeCue_14 : decode cX7_removeCue 14 = .ok (.ifCond .ne 5, 3) := by decide +kernel
theorem dX7_removeCue_17 : decode cX7_removeCue 17 = .ok (.iconst (-1), 1) := by decide +kernel
theorem dX7_removeCue_18 : decode cX7_removeCue 18 = .ok (.ireturn, 1) := by decide +kernel
theorem dX7_removeCue_19 : decode cX7_removeCue 19 = .ok (.aload_n 0, 1) := by decide +kernel
theorem dX7_removeCue_20 : decode cX7_removeCue 20 = .ok (.getfield 22, 3) := by decide +kernel
theorem dX7_removeCue_23 : decode cX7_removeCue 23 = .ok (.aload_n 0, 1) := by decide +kernel
theorem dX7_removeCue_24 : decode cX7_removeCue 24 = .ok (.getfield 10, 3) := by decide +kernel
theorem dX7_removeCue_27 : decode cX7_removeCue 27 = .ok (.invokevirtual 68, 3) := by decide +kernel
theorem dX7_removeCue_30 : decode cX7_removeCue 30 = .ok (.aload_n 0, 1) := by decide +kernel
theorem dX7_removeCue_31 : decode cX7_removeCue 31 = .ok (.getfield 10, 3) := by decide +kernel
theorem dX7_removeCue_34 : decode cX7_removeCue 34 = .ok (.getfield 91, 3) := by decide +kernel
theorem dX7_removeCue_37 : decode cX7_removeCue 37 = .ok (.iload_n 1, 1) := by decide +kernel
theorem dX7_removeCue_38 : decode cX7_removeCue 38 = .ok (.invokevirtual 120, 3) := by decide +kernel
theorem dX7_removeCue_41 : decode cX7_removeCue 41 = .ok (.aload_n 0, 1) := by decide +kernel
theorem dX7_removeCue_42 : decode cX7_removeCue 42 = .ok (.getfield 10, 3) := by decide +kernel
theorem dX7_removeCue_45 : decode cX7_removeCue 45 = .ok (.getfield 91, 3) := by decide +kernel
theorem dX7_removeCue_48 : decode cX7_removeCue 48 = .ok (.getfield 111, 3) := by decide +kernel
theorem dX7_removeCue_51 : decode cX7_removeCue 51 = .ok (.ireturn, 1) := by decide +kernel
set_option maxRecDepth 20000 in
theorem ggX7_removeCue_X0_removeAt : GoodIn wsX7_removeCue wsX0_removeAt := goodIn_r _ [68, 61, 69, 70, 71, 55, 72, 57, 58, 59, 60, 73, 74, 75, 41, 76, 77, 78, 79, 80, 43, 81, 82, 83, 84, 103, 104, 105, 106, 107, 108, 111] (by decide +kernel) (by decide +kernel)
set_option maxRecDepth 20000 in
theorem gX7_removeCue_X0_removeAt : GoodIn wsX7_removeCue (wsV RX7 120 RX0 yX0_removeAt wsX0_removeAt) := goodIn_app (goodIn_of _ (by decide +kernel)) ggX7_removeCue_X0_removeAt
set_option maxRecDepth 20000 in
theorem ggX7_removeCue_X2_record : GoodIn wsX7_removeCue wsX2_record := goodIn_r _ [11, 12, 13, 14, 15, 16, 10, 17, 18, 19, 20, 21, 22, 23, 24, 25, 26, 27, 28, 29, 30, 31, 32, 33, 34, 35, 36, 37, 38, 39, 40, 41, 42, 43, 44, 45, 46, 47, 48, 49, 50, 51, 52, 53, 54, 55, 56, 57, 58, 59, 60, 61, 62, 63, 64, 109, 110, 92, 93, 94, 95, 96, 97, 98, 99, 100, 101, 102, 111, 103, 104, 105, 106, 107, 108] (by decide +kernel) (by decide +kernel)
set_option maxRecDepth 20000 in
theorem gX7_removeCue_X2_record : GoodIn wsX7_removeCue (wsV RX7 68 RX2 yX2_record wsX2_record) := goodIn_app (goodIn_of _ (by decide +kernel)) ggX7_removeCue_X2_record
set_option maxRecDepth 20000 in
theorem ggX7_removeCue_X7_isBelow : GoodIn wsX7_removeCue wsX7_isBelow := goodIn_r _ [6] (by decide +kernel) (by decide +kernel)
set_option maxRecDepth 20000 in
theorem gX7_removeCue_X7_isBelow : GoodIn wsX7_removeCue (va_wsS RX7 51 yX7_isBelow wsX7_isBelow) := goodIn_app (goodIn_of _ (by decide +kernel)) ggX7_removeCue_X7_isBelow
theorem iX7_removeCue_0 : ∀ w ∈ u_ws RX0 TX0 6, w ∈ wsX7_removeCue := fun w h => List.mem_cons_of_mem _ (List.mem_append_left _ (List.mem_append_left _ (List.mem_append_right _ (h))))
theorem iX7_removeCue_5 : ∀ w ∈ u_ws RX5 TX5 11, w ∈ wsX7_removeCue := fun w h => List.mem_cons_of_mem _ (List.mem_append_left _ (List.mem_append_left _ (List.mem_append_left _ (List.mem_append_right _ (h)))))
theorem iX7_removeCue_7 : ∀ w ∈ u_ws RX7 TX7 7, w ∈ wsX7_removeCue := fun w h => List.mem_cons_of_mem _ (List.mem_append_left _ (List.mem_append_left _ (List.mem_append_left _ (List.mem_append_left _ (List.mem_append_right _ (h))))))
set_option maxHeartbeats 4000000 in
set_option maxRecDepth 100000 in
theorem c_X7_removeCue {E : EE} {l : Launch} {g : GG} {ad : Nat → Nat} (hg : gwf g) {o0 : Nat} {x1 : Int} {M : Mm} {Q : Int → Mm → Prop} (k_o0 : gk g o0 = 7) (h : p_X7_removeCue g o0 x1 M Q) : Ct E l yX7_removeCue wsX7_removeCue rmX7_removeCue g ad [.ref (ad o0), cI x1] M (QI E g ad Q) := by
  refine ent (cc := cX7_removeCue) (maxL := 2) (ret := (some .int)) (own := RX7) (by decide +kernel) rfl rfl (Nat.le_of_ble_eq_true rfl) ?_
  intro p e s m below meth c ls X hr hlk K w hl
  have hl : lv_has ls 2 [(0, .ref (ad o0)), (1, cI x1)] := hl
  unfold p_X7_removeCue at h
  refine lv_iload_n X.1 X.2.1 dX7_removeCue_0 rfl (lv_at hl 1 rfl) ?_
  refine lv_aload_n X.1 X.2.1 dX7_removeCue_1 rfl (lv_at hl 0 rfl) ?_
  refine r_getr (N := 7) (T := TX7) X K w iX7_removeCue_7 k_o0 rfl (by decide) 0 (by decide) rfl rfl (List.mem_of_getElem? (i := 1) rfl) dX7_removeCue_2 ?_
  have k1 : gk g (o0 + 1) = 5 := gch hg k_o0 (by decide) 0 (by decide) rfl rfl
  refine r_getrN (N := 11) (T := TX5) X K w iX7_removeCue_5 k1 rfl (by decide) 4 (by decide) rfl rfl (List.mem_of_getElem? (i := 16) rfl) dX7_removeCue_5 ?_
  have k2 : gk g ((o0 + 1) + 9) = 0 := gch hg k1 (by decide) 4 (by decide) rfl rfl
  refine r_getiN (N := 6) (T := TX0) (kz := 5) X K w iX7_removeCue_0 k2 rfl (by decide) 5 (by decide) rfl rfl rfl (List.mem_of_getElem? (i := 8) rfl) dX7_removeCue_8 ?_
  refine q_i (x_S (As := [cI x1, cI (M ((o0 + 1) + 9) 5)]) (rest := []) X K w (c_X7_isBelow hg h) (va_cwS 2 X.2.2.2.2 gX7_removeCue_X7_isBelow rfl rfl rfl (by decide +kernel) ⟨Nat.le_of_ble_eq_true rfl, Nat.le_of_ble_eq_true rfl⟩) rfl hl rfl (Nat.le_of_ble_eq_true rfl) dX7_removeCue_11 ⟨Nat.le_of_ble_eq_true rfl, Nat.le_of_ble_eq_true rfl⟩) w (fun r4 M3 H locs h w => ?_)
  obtain ⟨i0, h1, h2⟩ := h
  refine r_if_ne (tgt := 19) X i0 dX7_removeCue_14 (by decide) (fun cc => ?_) (fun cc => ?_)
  · have h := h1 cc
    refine lv_aload_n X.1 X.2.1 dX7_removeCue_19 rfl (lv_at hl 0 rfl) ?_
    refine r_getr (N := 7) (T := TX7) X K w iX7_removeCue_7 k_o0 rfl (by decide) 2 (by decide) rfl rfl (List.mem_of_getElem? (i := 2) rfl) dX7_removeCue_20 ?_
    have k5 : gk g (o0 + 37) = 2 := gch hg k_o0 (by decide) 2 (by decide) rfl rfl
    refine lv_aload_n X.1 X.2.1 dX7_removeCue_23 rfl (lv_at hl 0 rfl) ?_
    refine r_getr (N := 7) (T := TX7) X K w iX7_removeCue_7 k_o0 rfl (by decide) 0 (by decide) rfl rfl (List.mem_of_getElem? (i := 1) rfl) dX7_removeCue_24 ?_
    have k6 : gk g (o0 + 1) = 5 := gch hg k_o0 (by decide) 0 (by decide) rfl rfl
    refine q_v (x_V (As := [.ref (ad (o0 + 1))]) (rest := []) X K w (c_X2_record hg k5 k6 h) (cwV 1 X.2.2.2.2 gX7_removeCue_X2_record rfl rfl rfl (by decide +kernel) ⟨Nat.le_of_ble_eq_true rfl, Nat.le_of_ble_eq_true rfl⟩) k5 (by decide) rfl rfl hl rfl (Nat.le_of_ble_eq_true rfl) dX7_removeCue_27 ⟨Nat.le_of_ble_eq_true rfl, Nat.le_of_ble_eq_true rfl⟩) w (fun M7 H locs h w => ?_)
    refine lv_aload_n X.1 X.2.1 dX7_removeCue_30 rfl (lv_at hl 0 rfl) ?_
    refine r_getr (N := 7) (T := TX7) X K w iX7_removeCue_7 k_o0 rfl (by decide) 0 (by decide) rfl rfl (List.mem_of_getElem? (i := 1) rfl) dX7_removeCue_31 ?_
    have k8 : gk g (o0 + 1) = 5 := gch hg k_o0 (by decide) 0 (by decide) rfl rfl
    refine r_getrN (N := 11) (T := TX5) X K w iX7_removeCue_5 k8 rfl (by decide) 4 (by decide) rfl rfl (List.mem_of_getElem? (i := 16) rfl) dX7_removeCue_34 ?_
    have k9 : gk g ((o0 + 1) + 9) = 0 := gch hg k8 (by decide) 4 (by decide) rfl rfl
    refine lv_iload_n X.1 X.2.1 dX7_removeCue_37 rfl (lv_at hl 1 rfl) ?_
    refine q_v (x_V (As := [cI x1]) (rest := []) X K w (c_X0_removeAt hg k9 h) (cwV 1 X.2.2.2.2 gX7_removeCue_X0_removeAt rfl rfl rfl (by decide +kernel) ⟨Nat.le_of_ble_eq_true rfl, Nat.le_of_ble_eq_true rfl⟩) k9 (by decide) rfl rfl hl rfl (Nat.le_of_ble_eq_true rfl) dX7_removeCue_38 ⟨Nat.le_of_ble_eq_true rfl, Nat.le_of_ble_eq_true rfl⟩) w (fun M10 H locs h w => ?_)
    refine lv_aload_n X.1 X.2.1 dX7_removeCue_41 rfl (lv_at hl 0 rfl) ?_
    refine r_getr (N := 7) (T := TX7) X K w iX7_removeCue_7 k_o0 rfl (by decide) 0 (by decide) rfl rfl (List.mem_of_getElem? (i := 1) rfl) dX7_removeCue_42 ?_
    have k11 : gk g (o0 + 1) = 5 := gch hg k_o0 (by decide) 0 (by decide) rfl rfl
    refine r_getrN (N := 11) (T := TX5) X K w iX7_removeCue_5 k11 rfl (by decide) 4 (by decide) rfl rfl (List.mem_of_getElem? (i := 16) rfl) dX7_removeCue_45 ?_
    have k12 : gk g ((o0 + 1) + 9) = 0 := gch hg k11 (by decide) 4 (by decide) rfl rfl
    refine r_getiN (N := 6) (T := TX0) (kz := 5) X K w iX7_removeCue_0 k12 rfl (by decide) 5 (by decide) rfl rfl rfl (List.mem_of_getElem? (i := 8) rfl) dX7_removeCue_48 ?_
    exact r_ireturn X hr hlk K w h dX7_removeCue_51
  · have h := h2 cc
    refine r_iconst X dX7_removeCue_17 ?_
    exact r_ireturn X hr hlk K w h dX7_removeCue_18
theorem dX7_shift_0 : decode cX7_shift 0 = .ok (.iload_n 1, 1) := by decide +kernel
theorem dX7_shift_1 : decode cX7_shift 1 = .ok (.bipush 6, 2) := by decide +kernel
theorem dX7_shift_3 : decode cX7_shift 3 = .ok (.invokestatic 51, 3) := by decide +kernel
theorem dX7_shift_6 : decode cX7_shift 6 = .ok (.ifCond .ne 5, 3) := by decide +kernel
theorem dX7_shift_9 : decode cX7_shift 9 = .ok (.iconst (-1), 1) := by decide +kernel
theorem dX7_shift_10 : decode cX7_shift 10 = .ok (.ireturn, 1) := by decide +kernel
theorem dX7_shift_11 : decode cX7_shift 11 = .ok (.iload_n 2, 1) := by decide +kernel
theorem dX7_shift_12 : decode cX7_shift 12 = .ok (.bipush (-99), 2) := by decide +kernel
theorem dX7_shift_14 : decode cX7_shift 14 = .ok (.bipush 99, 2) := by decide +kernel
theorem dX7_shift_16 : decode cX7_shift 16 = .ok (.invokestatic 76, 3) := by decide +kernel
theorem dX7_shift_19 : decode cX7_shift 19 = .ok (.ifCond .ne 6, 3) := by decide +kernel
theorem dX7_shift_22 : decode cX7_shift 22 = .ok (.bipush (-2), 2) := by decide +kernel
theorem dX7_shift_24 : decode cX7_shift 24 = .ok (.ireturn, 1) := by decide +kernel
theorem dX7_shift_25 : decode cX7_shift 25 = .ok (.aload_n 0, 1) := by decide +kernel
theorem dX7_shift_26 : decode cX7_shift 26 = .ok (.getfield 10, 3) := by decide +kernel
theorem dX7_shift_29 : decode cX7_shift 29 = .ok (.getfield 91, 3) := by decide +kernel
theorem dX7_shift_32 : decode cX7_shift 32 = .ok (.iload_n 1, 1) := by decide +kernel
theorem dX7_shift_33 : decode cX7_shift 33 = .ok (.iload_n 2, 1) := by decide +kernel
theorem dX7_shift_34 : decode cX7_shift 34 = .ok (.invokevirtual 124, 3) := by decide +kernel
theorem dX7_shift_37 : decode cX7_shift 37 = .ok (.ifCond .ne 6, 3) := by decide +kernel
theorem dX7_shift_40 : decode cX7_shift 40 = .ok (.bipush (-4), 2) := by decide +kernel
theorem dX7_shift_42 : decode cX7_shift 42 = .ok (.ireturn, 1) := by decide +kernel
theorem dX7_shift_43 : decode cX7_shift 43 = .ok (.aload_n 0, 1) := by decide +kernel
theorem dX7_shift_44 : decode cX7_shift 44 = .ok (.getfield 10, 3) := by decide +kernel
theorem dX7_shift_47 : decode cX7_shift 47 = .ok (.getfield 91, 3) := by decide +kernel
theorem dX7_shift_50 : decode cX7_shift 50 = .ok (.iload_n 1, 1) := by decide +kernel
theorem dX7_shift_51 : decode cX7_shift 51 = .ok (.invokevirtual 127, 3) := by decide +kernel
theorem dX7_shift_54 : decode cX7_shift 54 = .ok (.istore_n 3, 1) := by decide +kernel
theorem dX7_shift_55 : decode cX7_shift 55 = .ok (.iload_n 2, 1) := by decide +kernel
theorem dX7_shift_56 : decode cX7_shift 56 = .ok (.ifCond .eq 7, 3) := by decide +kernel
theorem dX7_shift_59 : decode cX7_shift 59 = .ok (.iload_n 3, 1) := by decide +kernel
theorem dX7_shift_60 : decode cX7_shift 60 = .ok (.ifCond .ne 6, 3) := by decide +kernel
theorem dX7_shift_63 : decode cX7_shift 63 = .ok (.bipush (-5), 2) := by decide +kernel
theorem dX7_shift_65 : decode cX7_shift 65 = .ok (.ireturn, 1) := by decide +kernel
theorem dX7_shift_66 : decode cX7_shift 66 = .ok (.aload_n 0, 1) := by decide +kernel
theorem dX7_shift_67 : decode cX7_shift 67 = .ok (.getfield 22, 3) := by decide +kernel
theorem dX7_shift_70 : decode cX7_shift 70 = .ok (.aload_n 0, 1) := by decide +kernel
theorem dX7_shift_71 : decode cX7_shift 71 = .ok (.getfield 10, 3) := by decide +kernel
theorem dX7_shift_74 : decode cX7_shift 74 = .ok (.invokevirtual 68, 3) := by decide +kernel
theorem dX7_shift_77 : decode cX7_shift 77 = .ok (.aload_n 0, 1) := by decide +kernel
theorem dX7_shift_78 : decode cX7_shift 78 = .ok (.getfield 10, 3) := by decide +kernel
theorem dX7_shift_81 : decode cX7_shift 81 = .ok (.getfield 91, 3) := by decide +kernel
theorem dX7_shift_84 : decode cX7_shift 84 = .ok (.iload_n 1, 1) := by decide +kernel
theorem dX7_shift_85 : decode cX7_shift 85 = .ok (.iload_n 2, 1) := by decide +kernel
theorem dX7_shift_86 : decode cX7_shift 86 = .ok (.invokevirtual 130, 3) := by decide +kernel
theorem dX7_shift_89 : decode cX7_shift 89 = .ok (.iload_n 3, 1) := by decide +kernel
theorem dX7_shift_90 : decode cX7_shift 90 = .ok (.ireturn, 1) := by decide +kernel
set_option maxRecDepth 20000 in
theorem ggX7_shift_X0_canMove : GoodIn wsX7_shift wsX0_canMove := goodIn_r _ [14, 15, 16, 17, 18, 19, 20, 21, 22, 23, 8, 5, 9, 135, 136, 137, 138, 139, 140, 141] (by decide +kernel) (by decide +kernel)
set_option maxRecDepth 20000 in
theorem gX7_shift_X0_canMove : GoodIn wsX7_shift (wsV RX7 124 RX0 yX0_canMove wsX0_canMove) := goodIn_app (goodIn_of _ (by decide +kernel)) ggX7_shift_X0_canMove
set_option maxRecDepth 20000 in
theorem ggX7_shift_X0_moveScene : GoodIn wsX7_shift wsX0_moveScene := goodIn_r _ [87, 15, 16, 17, 18, 19, 20, 21, 22, 23, 88, 89, 90, 91, 92, 93, 94, 95, 96, 97, 98, 99, 13, 100, 101, 102, 103, 104, 105, 106, 107, 108, 79, 109, 110, 111, 112, 80, 113, 114, 115, 116, 135, 136, 137, 138, 139, 140, 141] (by decide +kernel) (by decide +kernel)
set_option maxRecDepth 20000 in
theorem gX7_shift_X0_moveScene : GoodIn wsX7_shift (wsV RX7 130 RX0 yX0_moveScene wsX0_moveScene) := goodIn_app (goodIn_of _ (by decide +kernel)) ggX7_shift_X0_moveScene
set_option maxRecDepth 20000 in
theorem ggX7_shift_X0_sizeOfScene : GoodIn wsX7_shift wsX0_sizeOfScene := goodIn_r _ [27, 16, 28, 29, 30, 13, 31, 15, 18, 19, 20, 21, 22, 23, 135, 136, 137, 138, 139, 140, 141] (by decide +kernel) (by decide +kernel)
set_option maxRecDepth 20000 in
theorem gX7_shift_X0_sizeOfScene : GoodIn wsX7_shift (wsV RX7 127 RX0 yX0_sizeOfScene wsX0_sizeOfScene) := goodIn_app (goodIn_of _ (by decide +kernel)) ggX7_shift_X0_sizeOfScene
set_option maxRecDepth 20000 in
theorem ggX7_shift_X2_record : GoodIn wsX7_shift wsX2_record := goodIn_r _ [36, 37, 38, 39, 40, 41, 35, 42, 43, 44, 45, 46, 47, 48, 49, 50, 51, 52, 53, 54, 55, 56, 57, 58, 59, 60, 61, 62, 63, 64, 65, 21, 66, 23, 67, 68, 69, 70, 71, 72, 73, 74, 75, 76, 77, 13, 78, 17, 16, 79, 80, 15, 81, 82, 83, 142, 143, 124, 125, 126, 127, 128, 129, 130, 131, 132, 133, 134, 141, 135, 136, 137, 138, 139, 140] (by decide +kernel) (by decide +kernel)
set_option maxRecDepth 20000 in
theorem gX7_shift_X2_record : GoodIn wsX7_shift (wsV RX7 68 RX2 yX2_record wsX2_record) := goodIn_app (goodIn_of _ (by decide +kernel)) ggX7_shift_X2_record
set_option maxRecDepth 20000 in
theorem ggX7_shift_X7_isBelow : GoodIn wsX7_shift wsX7_isBelow := goodIn_r _ [6] (by decide +kernel) (by decide +kernel)
set_option maxRecDepth 20000 in
theorem gX7_shift_X7_isBelow : GoodIn wsX7_shift (va_wsS RX7 51 yX7_isBelow wsX7_isBelow) := goodIn_app (goodIn_of _ (by decide +kernel)) ggX7_shift_X7_isBelow
set_option maxRecDepth 20000 in
theorem ggX7_shift_X7_isWithin : GoodIn wsX7_shift wsX7_isWithin := goodIn_r _ [9] (by decide +kernel) (by decide +kernel)
set_option maxRecDepth 20000 in
theorem gX7_shift_X7_isWithin : GoodIn wsX7_shift (va_wsS RX7 76 yX7_isWithin wsX7_isWithin) := goodIn_app (goodIn_of _ (by decide +kernel)) ggX7_shift_X7_isWithin
theorem iX7_shift_5 : ∀ w ∈ u_ws RX5 TX5 11, w ∈ wsX7_shift := fun w h => List.mem_cons_of_mem _ (List.mem_append_left _ (List.mem_append_left _ (List.mem_append_left _ (List.mem_append_right _ (h)))))
theorem iX7_shift_7 : ∀ w ∈ u_ws RX7 TX7 7, w ∈ wsX7_shift := fun w h => List.mem_cons_of_mem _ (List.mem_append_left _ (List.mem_append_left _ (List.mem_append_left _ (List.mem_append_left _ (List.mem_append_right _ (h))))))
set_option maxHeartbeats 4000000 in
set_option maxRecDepth 100000 in
theorem c_X7_shift {E : EE} {l : Launch} {g : GG} {ad : Nat → Nat} (hg : gwf g) {o0 : Nat} {x1 : Int} {x2 : Int} {M : Mm} {Q : Int → Mm → Prop} (k_o0 : gk g o0 = 7) (h : p_X7_shift g o0 x1 x2 M Q) : Ct E l yX7_shift wsX7_shift rmX7_shift g ad [.ref (ad o0), cI x1, cI x2] M (QI E g ad Q) := by
  refine ent (cc := cX7_shift) (maxL := 4) (ret := (some .int)) (own := RX7) (by decide +kernel) rfl rfl (Nat.le_of_ble_eq_true rfl) ?_
  intro p e s m below meth c ls X hr hlk K w hl
  have hl : lv_has ls 4 [(0, .ref (ad o0)), (1, cI x1), (2, cI x2)] := hl
  unfold p_X7_shift at h
  refine lv_iload_n X.1 X.2.1 dX7_shift_0 rfl (lv_at hl 1 rfl) ?_
  refine r_bipush X dX7_shift_1 (by decide +kernel) ?_
  refine q_i (x_S (As := [cI x1, cI 6]) (rest := []) X K w (c_X7_isBelow hg h) (va_cwS 2 X.2.2.2.2 gX7_shift_X7_isBelow rfl rfl rfl (by decide +kernel) ⟨Nat.le_of_ble_eq_true rfl, Nat.le_of_ble_eq_true rfl⟩) rfl hl rfl (Nat.le_of_ble_eq_true rfl) dX7_shift_3 ⟨Nat.le_of_ble_eq_true rfl, Nat.le_of_ble_eq_true rfl⟩) w (fun r2 M1 H locs h w => ?_)
  obtain ⟨i0, h1, h2⟩ := h
  refine r_if_ne (tgt := 11) X i0 dX7_shift_6 (by decide) (fun cc => ?_) (fun cc => ?_)
  · have h := h1 cc
    refine lv_iload_n X.1 X.2.1 dX7_shift_11 rfl (lv_at hl 2 rfl) ?_
    refine r_bipush X dX7_shift_12 (by decide +kernel) ?_
    refine r_bipush X dX7_shift_14 (by decide +kernel) ?_
    refine q_i (x_S (As := [cI x2, cI (-99), cI 99]) (rest := []) X K w (c_X7_isWithin hg h) (va_cwS 3 X.2.2.2.2 gX7_shift_X7_isWithin rfl rfl rfl (by decide +kernel) ⟨Nat.le_of_ble_eq_true rfl, Nat.le_of_ble_eq_true rfl⟩) rfl hl rfl (Nat.le_of_ble_eq_true rfl) dX7_shift_16 ⟨Nat.le_of_ble_eq_true rfl, Nat.le_of_ble_eq_true rfl⟩) w (fun r4 M3 H locs h w => ?_)
    obtain ⟨i0, h1, h2⟩ := h
    refine r_if_ne (tgt := 25) X i0 dX7_shift_19 (by decide) (fun cc => ?_) (fun cc => ?_)
    · have h := h1 cc
      refine lv_aload_n X.1 X.2.1 dX7_shift_25 rfl (lv_at hl 0 rfl) ?_
      refine r_getr (N := 7) (T := TX7) X K w iX7_shift_7 k_o0 rfl (by decide) 0 (by decide) rfl rfl (List.mem_of_getElem? (i := 1) rfl) dX7_shift_26 ?_
      have k5 : gk g (o0 + 1) = 5 := gch hg k_o0 (by decide) 0 (by decide) rfl rfl
      refine r_getrN (N := 11) (T := TX5) X K w iX7_shift_5 k5 rfl (by decide) 4 (by decide) rfl rfl (List.mem_of_getElem? (i := 16) rfl) dX7_shift_29 ?_
      have k6 : gk g ((o0 + 1) + 9) = 0 := gch hg k5 (by decide) 4 (by decide) rfl rfl
      refine lv_iload_n X.1 X.2.1 dX7_shift_32 rfl (lv_at hl 1 rfl) ?_
      refine lv_iload_n X.1 X.2.1 dX7_shift_33 rfl (lv_at hl 2 rfl) ?_
      refine q_i (x_V (As := [cI x1, cI x2]) (rest := []) X K w (c_X0_canMove hg k6 h) (cwV 2 X.2.2.2.2 gX7_shift_X0_canMove rfl rfl rfl (by decide +kernel) ⟨Nat.le_of_ble_eq_true rfl, Nat.le_of_ble_eq_true rfl⟩) k6 (by decide) rfl rfl hl rfl (Nat.le_of_ble_eq_true rfl) dX7_shift_34 ⟨Nat.le_of_ble_eq_true rfl, Nat.le_of_ble_eq_true rfl⟩) w (fun r8 M7 H locs h w => ?_)
      obtain ⟨i0, h1, h2⟩ := h
      refine r_if_ne (tgt := 43) X i0 dX7_shift_37 (by decide) (fun cc => ?_) (fun cc => ?_)
      · have h := h1 cc
        refine lv_aload_n X.1 X.2.1 dX7_shift_43 rfl (lv_at hl 0 rfl) ?_
        refine r_getr (N := 7) (T := TX7) X K w iX7_shift_7 k_o0 rfl (by decide) 0 (by decide) rfl rfl (List.mem_of_getElem? (i := 1) rfl) dX7_shift_44 ?_
        have k9 : gk g (o0 + 1) = 5 := gch hg k_o0 (by decide) 0 (by decide) rfl rfl
        refine r_getrN (N := 11) (T := TX5) X K w iX7_shift_5 k9 rfl (by decide) 4 (by decide) rfl rfl (List.mem_of_getElem? (i := 16) rfl) dX7_shift_47 ?_
        have k10 : gk g ((o0 + 1) + 9) = 0 := gch hg k9 (by decide) 4 (by decide) rfl rfl
        refine lv_iload_n X.1 X.2.1 dX7_shift_50 rfl (lv_at hl 1 rfl) ?_
        refine q_i (x_V (As := [cI x1]) (rest := []) X K w (c_X0_sizeOfScene hg k10 h) (cwV 1 X.2.2.2.2 gX7_shift_X0_sizeOfScene rfl rfl rfl (by decide +kernel) ⟨Nat.le_of_ble_eq_true rfl, Nat.le_of_ble_eq_true rfl⟩) k10 (by decide) rfl rfl hl rfl (Nat.le_of_ble_eq_true rfl) dX7_shift_51 ⟨Nat.le_of_ble_eq_true rfl, Nat.le_of_ble_eq_true rfl⟩) w (fun r12 M11 H locs h w => ?_)
        refine lv_istore_n (lv' := [(3, cI r12), (0, .ref (ad o0)), (1, cI x1), (2, cI x2)]) X.1 X.2.1 dX7_shift_54 rfl hl (by decide) rfl (fun ls hl => ?_)
        refine lv_iload_n X.1 X.2.1 dX7_shift_55 rfl (lv_at hl 3 rfl) ?_
        obtain ⟨i0, h1, h2⟩ := h
        refine r_if_eq (tgt := 63) X i0 dX7_shift_56 (by decide) (fun cc => ?_) (fun cc => ?_)
        · have h := h1 cc
          refine r_bipush X dX7_shift_63 (by decide +kernel) ?_
          exact r_ireturn X hr hlk K w h dX7_shift_65
        · have h := h2 cc
          refine lv_iload_n X.1 X.2.1 dX7_shift_59 rfl (lv_at hl 0 rfl) ?_
          obtain ⟨i0, h1, h2⟩ := h
          refine r_if_ne (tgt := 66) X i0 dX7_shift_60 (by decide) (fun cc => ?_) (fun cc => ?_)
          · have h := h1 cc
            refine lv_aload_n X.1 X.2.1 dX7_shift_66 rfl (lv_at hl 1 rfl) ?_
            refine r_getr (N := 7) (T := TX7) X K w iX7_shift_7 k_o0 rfl (by decide) 2 (by decide) rfl rfl (List.mem_of_getElem? (i := 2) rfl) dX7_shift_67 ?_
            have k13 : gk g (o0 + 37) = 2 := gch hg k_o0 (by decide) 2 (by decide) rfl rfl
            refine lv_aload_n X.1 X.2.1 dX7_shift_70 rfl (lv_at hl 1 rfl) ?_
            refine r_getr (N := 7) (T := TX7) X K w iX7_shift_7 k_o0 rfl (by decide) 0 (by decide) rfl rfl (List.mem_of_getElem? (i := 1) rfl) dX7_shift_71 ?_
            have k14 : gk g (o0 + 1) = 5 := gch hg k_o0 (by decide) 0 (by decide) rfl rfl
            refine q_v (x_V (As := [.ref (ad (o0 + 1))]) (rest := []) X K w (c_X2_record hg k13 k14 h) (cwV 1 X.2.2.2.2 gX7_shift_X2_record rfl rfl rfl (by decide +kernel) ⟨Nat.le_of_ble_eq_true rfl, Nat.le_of_ble_eq_true rfl⟩) k13 (by decide) rfl rfl hl rfl (Nat.le_of_ble_eq_true rfl) dX7_shift_74 ⟨Nat.le_of_ble_eq_true rfl, Nat.le_of_ble_eq_true rfl⟩) w (fun M15 H locs h w => ?_)
            refine lv_aload_n X.1 X.2.1 dX7_shift_77 rfl (lv_at hl 1 rfl) ?_
            refine r_getr (N := 7) (T := TX7) X K w iX7_shift_7 k_o0 rfl (by decide) 0 (by decide) rfl rfl (List.mem_of_getElem? (i := 1) rfl) dX7_shift_78 ?_
            have k16 : gk g (o0 + 1) = 5 := gch hg k_o0 (by decide) 0 (by decide) rfl rfl
            refine r_getrN (N := 11) (T := TX5) X K w iX7_shift_5 k16 rfl (by decide) 4 (by decide) rfl rfl (List.mem_of_getElem? (i := 16) rfl) dX7_shift_81 ?_
            have k17 : gk g ((o0 + 1) + 9) = 0 := gch hg k16 (by decide) 4 (by decide) rfl rfl
            refine lv_iload_n X.1 X.2.1 dX7_shift_84 rfl (lv_at hl 2 rfl) ?_
            refine lv_iload_n X.1 X.2.1 dX7_shift_85 rfl (lv_at hl 3 rfl) ?_
            refine q_v (x_V (As := [cI x1, cI x2]) (rest := []) X K w (c_X0_moveScene hg k17 h) (cwV 2 X.2.2.2.2 gX7_shift_X0_moveScene rfl rfl rfl (by decide +kernel) ⟨Nat.le_of_ble_eq_true rfl, Nat.le_of_ble_eq_true rfl⟩) k17 (by decide) rfl rfl hl rfl (Nat.le_of_ble_eq_true rfl) dX7_shift_86 ⟨Nat.le_of_ble_eq_true rfl, Nat.le_of_ble_eq_true rfl⟩) w (fun M18 H locs h w => ?_)
            refine lv_iload_n X.1 X.2.1 dX7_shift_89 rfl (lv_at hl 0 rfl) ?_
            exact r_ireturn X hr hlk K w h dX7_shift_90
          · have h := h2 cc
            refine r_bipush X dX7_shift_63 (by decide +kernel) ?_
            exact r_ireturn X hr hlk K w h dX7_shift_65
      · have h := h2 cc
        refine r_bipush X dX7_shift_40 (by decide +kernel) ?_
        exact r_ireturn X hr hlk K w h dX7_shift_42
    · have h := h2 cc
      refine r_bipush X dX7_shift_22 (by decide +kernel) ?_
      exact r_ireturn X hr hlk K w h dX7_shift_24
  · have h := h2 cc
    refine r_iconst X dX7_shift_9 ?_
    exact r_ireturn X hr hlk K w h dX7_shift_10
theorem dX7_cutScene_0 : decode cX7_cutScene 0 = .ok (.iload_n 1, 1) := by decide +kernel
theorem dX7_cutScene_1 : decode cX7_cutScene 1 = .ok (.bipush 6, 2) := by decide +kernel
theorem dX7_cutScene_3 : decode cX7_cutScene 3 = .ok (.invokestatic 51, 3) := by decide +kernel
theorem dX7_cutScene_6 : decode cX7_cutScene 6 = .ok (.ifCond .ne 5, 3) := by decide +kernel
theorem dX7_cutScene_9 : decode cX7_cutScene 9 = .ok (.iconst (-1), 1) := by decide +kernel
theorem dX7_cutScene_10 : decode cX7_cutScene 10 = .ok (.ireturn, 1) := by decide +kernel
theorem dX7_cutScene_11 : decode cX7_cutScene 11 = .ok (.aload_n 0, 1) := by decide +kernel
theorem dX7_cutScene_12 : decode cX7_cutScene 12 = .ok (.getfield 10, 3) := by decide +kernel
theorem dX7_cutScene_15 : decode cX7_cutScene 15 = .ok (.getfield 91, 3) := by decide +kernel
theorem dX7_cutScene_18 : decode cX7_cutScene 18 = .ok (.iload_n 1, 1) := by decide +kernel
theorem dX7_cutScene_19 : decode cX7_cutScene 19 = .ok (.invokevirtual 127, 3) := by decide +kernel
theorem dX7_cutScene_22 : decode cX7_cutScene 22 = .ok (.istore_n 2, 1) := by decide +kernel
theorem dX7_cutScene_23 : decode cX7_cutScene 23 = .ok (.iload_n 2, 1) := by decide +kernel
theorem dX7_cutScene_24 : decode cX7_cutScene 24 = .ok (.ifCond .ne 6, 3) := by decide +kernel
theorem dX7_cutScene_27 : decode cX7_cutScene 27 = .ok (.bipush (-5), 2) := by decide +kernel
theorem dX7_cutScene_29 : decode cX7_cutScene 29 = .ok (.ireturn, 1) := by decide +kernel
theorem dX7_cutScene_30 : decode cX7_cutScene 30 = .ok (.aload_n 0, 1) := by decide +kernel
theorem dX7_cutScene_31 : decode cX7_cutScene 31 = .ok (.getfield 22, 3) := by decide +kernel
theorem dX7_cutScene_34 : decode cX7_cutScene 34 = .ok (.aload_n 0, 1) := by decide +kernel
theorem dX7_cutScene_35 : decode cX7_cutScene 35 = .ok (.getfield 10, 3) := by decide +kernel
theorem dX7_cutScene_38 : decode cX7_cutScene 38 = .ok (.invokevirtual 68, 3) := by decide +kernel
theorem dX7_cutScene_41 : decode cX7_cutScene 41 = .ok (.aload_n 0, 1) := by decide +kernel
theorem dX7_cutScene_42 : decode cX7_cutScene 42 = .ok (.getfield 10, 3) := by decide +kernel
theorem dX7_cutScene_45 : decode cX7_cutScene 45 = .ok (.getfield 91, 3) := by decide +kernel
theorem dX7_cutScene_48 : decode cX7_cutScene 48 = .ok (.iload_n 1, 1) := by decide +kernel
theorem dX7_cutScene_49 : decode cX7_cutScene 49 = .ok (.invokevirtual 133, 3) := by decide +kernel
theorem dX7_cutScene_52 : decode cX7_cutScene 52 = .ok (.iload_n 2, 1) := by decide +kernel
theorem dX7_cutScene_53 : decode cX7_cutScene 53 = .ok (.ireturn, 1) := by decide +kernel
set_option maxRecDepth 20000 in
theorem ggX7_cutScene_X0_removeScene : GoodIn wsX7_cutScene wsX0_removeScene := goodIn_r _ [80, 17, 12, 18, 19, 20, 21, 22, 23, 81, 82, 83, 10, 84, 71, 72, 73, 85, 86, 87, 88, 89, 90, 91, 92, 93, 112, 113, 114, 115, 116, 117, 118] (by decide +kernel) (by decide +kernel)
set_option maxRecDepth 20000 in
theorem gX7_cutScene_X0_removeScene : GoodIn wsX7_cutScene (wsV RX7 133 RX0 yX0_removeScene wsX0_removeScene) := goodIn_app (goodIn_of _ (by decide +kernel)) ggX7_cutScene_X0_removeScene
set_option maxRecDepth 20000 in
theorem ggX7_cutScene_X0_sizeOfScene : GoodIn wsX7_cutScene wsX0_sizeOfScene := goodIn_r _ [11, 12, 13, 14, 15, 10, 16, 17, 18, 19, 20, 21, 22, 23, 112, 113, 114, 115, 116, 117, 118] (by decide +kernel) (by decide +kernel)
set_option maxRecDepth 20000 in
theorem gX7_cutScene_X0_sizeOfScene : GoodIn wsX7_cutScene (wsV RX7 127 RX0 yX0_sizeOfScene wsX0_sizeOfScene) := goodIn_app (goodIn_of _ (by decide +kernel)) ggX7_cutScene_X0_sizeOfScene
set_option maxRecDepth 20000 in
theorem ggX7_cutScene_X2_record : GoodIn wsX7_cutScene wsX2_record := goodIn_r _ [28, 29, 30, 31, 32, 33, 27, 34, 35, 36, 37, 38, 39, 40, 41, 42, 43, 44, 45, 46, 47, 48, 49, 50, 51, 52, 53, 54, 55, 56, 57, 21, 58, 23, 59, 60, 61, 62, 63, 64, 65, 66, 67, 68, 69, 10, 70, 71, 12, 72, 73, 17, 74, 75, 76, 119, 120, 101, 102, 103, 104, 105, 106, 107, 108, 109, 110, 111, 118, 112, 113, 114, 115, 116, 117] (by decide +kernel) (by decide +kernel)
set_option maxRecDepth 20000 in
theorem gX7_cutScene_X2_record : GoodIn wsX7_cutScene (wsV RX7 68 RX2 yX2_record wsX2_record) := goodIn_app (goodIn_of _ (by decide +kernel)) ggX7_cutScene_X2_record
set_option maxRecDepth 20000 in
theorem ggX7_cutScene_X7_isBelow : GoodIn wsX7_cutScene wsX7_isBelow := goodIn_r _ [6] (by decide +kernel) (by decide +kernel)
set_option maxRecDepth 20000 in
theorem gX7_cutScene_X7_isBelow : GoodIn wsX7_cutScene (va_wsS RX7 51 yX7_isBelow wsX7_isBelow) := goodIn_app (goodIn_of _ (by decide +kernel)) ggX7_cutScene_X7_isBelow
theorem iX7_cutScene_5 : ∀ w ∈ u_ws RX5 TX5 11, w ∈ wsX7_cutScene := fun w h => List.mem_cons_of_mem _ (List.mem_append_left _ (List.mem_append_left _ (List.mem_append_left _ (List.mem_append_right _ (h)))))
theorem iX7_cutScene_7 : ∀ w ∈ u_ws RX7 TX7 7, w ∈ wsX7_cutScene := fun w h => List.mem_cons_of_mem _ (List.mem_append_left _ (List.mem_append_left _ (List.mem_append_left _ (List.mem_append_left _ (List.mem_append_right _ (h))))))
set_option maxHeartbeats 4000000 in
set_option maxRecDepth 100000 in
theorem c_X7_cutScene {E : EE} {l : Launch} {g : GG} {ad : Nat → Nat} (hg : gwf g) {o0 : Nat} {x1 : Int} {M : Mm} {Q : Int → Mm → Prop} (k_o0 : gk g o0 = 7) (h : p_X7_cutScene g o0 x1 M Q) : Ct E l yX7_cutScene wsX7_cutScene rmX7_cutScene g ad [.ref (ad o0), cI x1] M (QI E g ad Q) := by
  refine ent (cc := cX7_cutScene) (maxL := 3) (ret := (some .int)) (own := RX7) (by decide +kernel) rfl rfl (Nat.le_of_ble_eq_true rfl) ?_
  intro p e s m below meth c ls X hr hlk K w hl
  have hl : lv_has ls 3 [(0, .ref (ad o0)), (1, cI x1)] := hl
  unfold p_X7_cutScene at h
  refine lv_iload_n X.1 X.2.1 dX7_cutScene_0 rfl (lv_at hl 1 rfl) ?_
  refine r_bipush X dX7_cutScene_1 (by decide +kernel) ?_
  refine q_i (x_S (As := [cI x1, cI 6]) (rest := []) X K w (c_X7_isBelow hg h) (va_cwS 2 X.2.2.2.2 gX7_cutScene_X7_isBelow rfl rfl rfl (by decide +kernel) ⟨Nat.le_of_ble_eq_true rfl, Nat.le_of_ble_eq_true rfl⟩) rfl hl rfl (Nat.le_of_ble_eq_true rfl) dX7_cutScene_3 ⟨Nat.le_of_ble_eq_true rfl, Nat.le_of_ble_eq_true rfl⟩) w (fun r2 M1 H locs h w => ?_)
  obtain ⟨i0, h1, h2⟩ := h
  refine r_if_ne (tgt := 11) X i0 dX7_cutScene_6 (by decide) (fun cc => ?_) (fun cc => ?_)
  · have h := h1 cc
    refine lv_aload_n X.1 X.2.1 dX7_cutScene_11 rfl (lv_at hl 0 rfl) ?_
    refine r_getr (N := 7) (T := TX7) X K w iX7_cutScene_7 k_o0 rfl (by decide) 0 (by decide) rfl rfl (List.mem_of_getElem? (i := 1) rfl) dX7_cutScene_12 ?_
    have k3 : gk g (o0 + 1) = 5 := gch hg k_o0 (by decide) 0 (by decide) rfl rfl
    refine r_getrN (N := 11) (T := TX5) X K w iX7_cutScene_5 k3 rfl (by decide) 4 (by decide) rfl rfl (List.mem_of_getElem? (i := 16) rfl) dX7_cutScene_15 ?_
    have k4 : gk g ((o0 + 1) + 9) = 0 := gch hg k3 (by decide) 4 (by decide) rfl rfl
    refine lv_iload_n X.1 X.2.1 dX7_cutScene_18 rfl (lv_at hl 1 rfl) ?_
    refine q_i (x_V (As := [cI x1]) (rest := []) X K w (c_X0_sizeOfScene hg k4 h) (cwV 1 X.2.2.2.2 gX7_cutScene_X0_sizeOfScene rfl rfl rfl (by decide +kernel) ⟨Nat.le_of_ble_eq_true rfl, Nat.le_of_ble_eq_true rfl⟩) k4 (by decide) rfl rfl hl rfl (Nat.le_of_ble_eq_true rfl) dX7_cutScene_19 ⟨Nat.le_of_ble_eq_true rfl, Nat.le_of_ble_eq_true rfl⟩) w (fun r6 M5 H locs h w => ?_)
    refine lv_istore_n (lv' := [(2, cI r6), (0, .ref (ad o0)), (1, cI x1)]) X.1 X.2.1 dX7_cutScene_22 rfl hl (by decide) rfl (fun ls hl => ?_)
    refine lv_iload_n X.1 X.2.1 dX7_cutScene_23 rfl (lv_at hl 0 rfl) ?_
    obtain ⟨i0, h1, h2⟩ := h
    refine r_if_ne (tgt := 30) X i0 dX7_cutScene_24 (by decide) (fun cc => ?_) (fun cc => ?_)
    · have h := h1 cc
      refine lv_aload_n X.1 X.2.1 dX7_cutScene_30 rfl (lv_at hl 1 rfl) ?_
      refine r_getr (N := 7) (T := TX7) X K w iX7_cutScene_7 k_o0 rfl (by decide) 2 (by decide) rfl rfl (List.mem_of_getElem? (i := 2) rfl) dX7_cutScene_31 ?_
      have k7 : gk g (o0 + 37) = 2 := gch hg k_o0 (by decide) 2 (by decide) rfl rfl
      refine lv_aload_n X.1 X.2.1 dX7_cutScene_34 rfl (lv_at hl 1 rfl) ?_
      refine r_getr (N := 7) (T := TX7) X K w iX7_cutScene_7 k_o0 rfl (by decide) 0 (by decide) rfl rfl (List.mem_of_getElem? (i := 1) rfl) dX7_cutScene_35 ?_
      have k8 : gk g (o0 + 1) = 5 := gch hg k_o0 (by decide) 0 (by decide) rfl rfl
      refine q_v (x_V (As := [.ref (ad (o0 + 1))]) (rest := []) X K w (c_X2_record hg k7 k8 h) (cwV 1 X.2.2.2.2 gX7_cutScene_X2_record rfl rfl rfl (by decide +kernel) ⟨Nat.le_of_ble_eq_true rfl, Nat.le_of_ble_eq_true rfl⟩) k7 (by decide) rfl rfl hl rfl (Nat.le_of_ble_eq_true rfl) dX7_cutScene_38 ⟨Nat.le_of_ble_eq_true rfl, Nat.le_of_ble_eq_true rfl⟩) w (fun M9 H locs h w => ?_)
      refine lv_aload_n X.1 X.2.1 dX7_cutScene_41 rfl (lv_at hl 1 rfl) ?_
      refine r_getr (N := 7) (T := TX7) X K w iX7_cutScene_7 k_o0 rfl (by decide) 0 (by decide) rfl rfl (List.mem_of_getElem? (i := 1) rfl) dX7_cutScene_42 ?_
      have k10 : gk g (o0 + 1) = 5 := gch hg k_o0 (by decide) 0 (by decide) rfl rfl
      refine r_getrN (N := 11) (T := TX5) X K w iX7_cutScene_5 k10 rfl (by decide) 4 (by decide) rfl rfl (List.mem_of_getElem? (i := 16) rfl) dX7_cutScene_45 ?_
      have k11 : gk g ((o0 + 1) + 9) = 0 := gch hg k10 (by decide) 4 (by decide) rfl rfl
      refine lv_iload_n X.1 X.2.1 dX7_cutScene_48 rfl (lv_at hl 2 rfl) ?_
      refine q_v (x_V (As := [cI x1]) (rest := []) X K w (c_X0_removeScene hg k11 h) (cwV 1 X.2.2.2.2 gX7_cutScene_X0_removeScene rfl rfl rfl (by decide +kernel) ⟨Nat.le_of_ble_eq_true rfl, Nat.le_of_ble_eq_true rfl⟩) k11 (by decide) rfl rfl hl rfl (Nat.le_of_ble_eq_true rfl) dX7_cutScene_49 ⟨Nat.le_of_ble_eq_true rfl, Nat.le_of_ble_eq_true rfl⟩) w (fun M12 H locs h w => ?_)
      refine lv_iload_n X.1 X.2.1 dX7_cutScene_52 rfl (lv_at hl 0 rfl) ?_
      exact r_ireturn X hr hlk K w h dX7_cutScene_53
    · have h := h2 cc
      refine r_bipush X dX7_cutScene_27 (by decide +kernel) ?_
      exact r_ireturn X hr hlk K w h dX7_cutScene_29
  · have h := h2 cc
    refine r_iconst X dX7_cutScene_9 ?_
    exact r_ireturn X hr hlk K w h dX7_cutScene_10
theorem dX7_rehearse_0 : decode cX7_rehearse 0 = .ok (.aload_n 0, 1) := by decide +kernel
theorem dX7_rehearse_1 : decode cX7_rehearse 1 = .ok (.getfield 43, 3) := by decide +kernel
theorem dX7_rehearse_4 : decode cX7_rehearse 4 = .ok (.aload_n 0, 1) := by decide +kernel
theorem dX7_rehearse_5 : decode cX7_rehearse 5 = .ok (.getfield 10, 3) := by decide +kernel
theorem dX7_rehearse_8 : decode cX7_rehearse 8 = .ok (.iload_n 1, 1) := by decide +kernel
theorem dX7_rehearse_9 : decode cX7_rehearse 9 = .ok (.invokevirtual 232, 3) := by decide +kernel
theorem dX7_rehearse_12 : decode cX7_rehearse 12 = .ok (.aload_n 0, 1) := by decide +kernel
theorem dX7_rehearse_13 : decode cX7_rehearse 13 = .ok (.getfield 43, 3) := by decide +kernel
theorem dX7_rehearse_16 : decode cX7_rehearse 16 = .ok (.aload_n 0, 1) := by decide +kernel
theorem dX7_rehearse_17 : decode cX7_rehearse 17 = .ok (.getfield 10, 3) := by decide +kernel
theorem dX7_rehearse_20 : decode cX7_rehearse 20 = .ok (.invokevirtual 236, 3) := by decide +kernel
theorem dX7_rehearse_23 : decode cX7_rehearse 23 = .ok (.return_, 1) := by decide +kernel
set_option maxRecDepth 20000 in
theorem ggX7_rehearse_X3_begin : GoodIn wsX7_rehearse wsX3_begin := goodIn_r _ [7, 8, 9, 10, 11, 12, 13, 14, 15, 16, 17, 18, 19, 20, 21, 22, 23, 24, 25, 26, 27, 28, 29, 30, 31, 32, 105, 106, 107, 108, 109, 110, 111, 112, 113, 114, 115, 116, 117, 118, 119, 120, 121, 122, 123, 124, 125, 126, 127, 128, 129, 130, 131] (by decide +kernel) (by decide +kernel)
set_option maxRecDepth 20000 in
theorem gX7_rehearse_X3_begin : GoodIn wsX7_rehearse (wsV RX7 232 RX3 yX3_begin wsX3_begin) := goodIn_app (goodIn_of _ (by decide +kernel)) ggX7_rehearse_X3_begin
set_option maxRecDepth 20000 in
theorem ggX7_rehearse_X3_playTake : GoodIn wsX7_rehearse wsX3_playTake := goodIn_r _ [36, 37, 38, 39, 40, 41, 42, 43, 44, 45, 46, 47, 48, 14, 49, 16, 50, 51, 52, 6, 53, 54, 25, 26, 27, 28, 55, 56, 57, 58, 8, 59, 60, 61, 62, 10, 63, 64, 19, 65, 66, 67, 68, 69, 9, 70, 71, 72, 73, 29, 30, 31, 32, 74, 75, 76, 77, 78, 79, 80, 81, 82, 83, 84, 85, 86, 87, 88, 89, 90, 91, 92, 93, 94, 95, 96, 97, 105, 106, 107, 108, 109, 110, 111, 112, 113, 114, 115, 116, 117, 118, 119, 120, 121, 122, 123, 124, 125, 126, 127, 128, 129, 130, 132, 133, 134, 135, 136, 137, 131] (by decide +kernel) (by decide +kernel)
set_option maxRecDepth 20000 in
theorem gX7_rehearse_X3_playTake : GoodIn wsX7_rehearse (wsV RX7 236 RX3 yX3_playTake wsX3_playTake) := goodIn_app (goodIn_of _ (by decide +kernel)) ggX7_rehearse_X3_playTake
theorem iX7_rehearse_7 : ∀ w ∈ u_ws RX7 TX7 7, w ∈ wsX7_rehearse := fun w h => List.mem_cons_of_mem _ (List.mem_append_left _ (List.mem_append_left _ (List.mem_append_left _ (List.mem_append_left _ (List.mem_append_right _ (h))))))
set_option maxHeartbeats 4000000 in
set_option maxRecDepth 100000 in
theorem c_X7_rehearse {E : EE} {l : Launch} {g : GG} {ad : Nat → Nat} (hg : gwf g) {o0 : Nat} {x1 : Int} {M : Mm} {Q : Mm → Prop} (k_o0 : gk g o0 = 7) (h : p_X7_rehearse g o0 x1 M Q) : Ct E l yX7_rehearse wsX7_rehearse rmX7_rehearse g ad [.ref (ad o0), cI x1] M (QV E g ad Q) := by
  refine ent (cc := cX7_rehearse) (maxL := 2) (ret := none) (own := RX7) (by decide +kernel) rfl rfl (Nat.le_of_ble_eq_true rfl) ?_
  intro p e s m below meth c ls X hr hlk K w hl
  have hl : lv_has ls 2 [(0, .ref (ad o0)), (1, cI x1)] := hl
  unfold p_X7_rehearse at h
  refine lv_aload_n X.1 X.2.1 dX7_rehearse_0 rfl (lv_at hl 0 rfl) ?_
  refine r_getr (N := 7) (T := TX7) X K w iX7_rehearse_7 k_o0 rfl (by decide) 5 (by decide) rfl rfl (List.mem_of_getElem? (i := 1) rfl) dX7_rehearse_1 ?_
  have k1 : gk g (o0 + 124) = 3 := gch hg k_o0 (by decide) 5 (by decide) rfl rfl
  refine lv_aload_n X.1 X.2.1 dX7_rehearse_4 rfl (lv_at hl 0 rfl) ?_
  refine r_getr (N := 7) (T := TX7) X K w iX7_rehearse_7 k_o0 rfl (by decide) 0 (by decide) rfl rfl (List.mem_of_getElem? (i := 2) rfl) dX7_rehearse_5 ?_
  have k2 : gk g (o0 + 1) = 5 := gch hg k_o0 (by decide) 0 (by decide) rfl rfl
  refine lv_iload_n X.1 X.2.1 dX7_rehearse_8 rfl (lv_at hl 1 rfl) ?_
  refine q_v (x_V (As := [.ref (ad (o0 + 1)), cI x1]) (rest := []) X K w (c_X3_begin hg k1 k2 h) (cwV 2 X.2.2.2.2 gX7_rehearse_X3_begin rfl rfl rfl (by decide +kernel) ⟨Nat.le_of_ble_eq_true rfl, Nat.le_of_ble_eq_true rfl⟩) k1 (by decide) rfl rfl hl rfl (Nat.le_of_ble_eq_true rfl) dX7_rehearse_9 ⟨Nat.le_of_ble_eq_true rfl, Nat.le_of_ble_eq_true rfl⟩) w (fun M3 H locs h w => ?_)
  refine lv_aload_n X.1 X.2.1 dX7_rehearse_12 rfl (lv_at hl 0 rfl) ?_
  refine r_getr (N := 7) (T := TX7) X K w iX7_rehearse_7 k_o0 rfl (by decide) 5 (by decide) rfl rfl (List.mem_of_getElem? (i := 1) rfl) dX7_rehearse_13 ?_
  have k4 : gk g (o0 + 124) = 3 := gch hg k_o0 (by decide) 5 (by decide) rfl rfl
  refine lv_aload_n X.1 X.2.1 dX7_rehearse_16 rfl (lv_at hl 0 rfl) ?_
  refine r_getr (N := 7) (T := TX7) X K w iX7_rehearse_7 k_o0 rfl (by decide) 0 (by decide) rfl rfl (List.mem_of_getElem? (i := 2) rfl) dX7_rehearse_17 ?_
  have k5 : gk g (o0 + 1) = 5 := gch hg k_o0 (by decide) 0 (by decide) rfl rfl
  refine q_v (x_V (As := [.ref (ad (o0 + 1))]) (rest := []) X K w (c_X3_playTake hg k4 k5 h) (cwV 1 X.2.2.2.2 gX7_rehearse_X3_playTake rfl rfl rfl (by decide +kernel) ⟨Nat.le_of_ble_eq_true rfl, Nat.le_of_ble_eq_true rfl⟩) k4 (by decide) rfl rfl hl rfl (Nat.le_of_ble_eq_true rfl) dX7_rehearse_20 ⟨Nat.le_of_ble_eq_true rfl, Nat.le_of_ble_eq_true rfl⟩) w (fun M6 H locs h w => ?_)
  exact r_return X hr hlk K w h dX7_rehearse_23
theorem dX7_take_0 : decode cX7_take 0 = .ok (.aload_n 0, 1) := by decide +kernel
theorem dX7_take_1 : decode cX7_take 1 = .ok (.getfield 10, 3) := by decide +kernel
theorem dX7_take_4 : decode cX7_take 4 = .ok (.getfield 91, 3) := by decide +kernel
theorem dX7_take_7 : decode cX7_take 7 = .ok (.getfield 111, 3) := by decide +kernel
theorem dX7_take_10 : decode cX7_take 10 = .ok (.ifCond .ne 6, 3) := by decide +kernel
theorem dX7_take_13 : decode cX7_take 13 = .ok (.bipush (-4), 2) := by decide +kernel
theorem dX7_take_15 : decode cX7_take 15 = .ok (.ireturn, 1) := by decide +kernel
theorem dX7_take_16 : decode cX7_take 16 = .ok (.aload_n 0, 1) := by decide +kernel
theorem dX7_take_17 : decode cX7_take 17 = .ok (.getfield 22, 3) := by decide +kernel
theorem dX7_take_20 : decode cX7_take 20 = .ok (.aload_n 0, 1) := by decide +kernel
theorem dX7_take_21 : decode cX7_take 21 = .ok (.getfield 10, 3) := by decide +kernel
theorem dX7_take_24 : decode cX7_take 24 = .ok (.invokevirtual 68, 3) := by decide +kernel
theorem dX7_take_27 : decode cX7_take 27 = .ok (.aload_n 0, 1) := by decide +kernel
theorem dX7_take_28 : decode cX7_take 28 = .ok (.aload_n 0, 1) := by decide +kernel
theorem dX7_take_29 : decode cX7_take 29 = .ok (.getfield 10, 3) := by decide +kernel
theorem dX7_take_32 : decode cX7_take 32 = .ok (.getfield 80, 3) := by decide +kernel
theorem dX7_take_35 : decode cX7_take 35 = .ok (.invokevirtual 136, 3) := by decide +kernel
theorem dX7_take_38 : decode cX7_take 38 = .ok (.aload_n 0, 1) := by decide +kernel
theorem dX7_take_39 : decode cX7_take 39 = .ok (.getfield 10, 3) := by decide +kernel
theorem dX7_take_42 : decode cX7_take 42 = .ok (.getfield 139, 3) := by decide +kernel
theorem dX7_take_45 : decode cX7_take 45 = .ok (.aload_n 0, 1) := by decide +kernel
theorem dX7_take_46 : decode cX7_take 46 = .ok (.getfield 43, 3) := by decide +kernel
theorem dX7_take_49 : decode cX7_take 49 = .ok (.getfield 142, 3) := by decide +kernel
theorem dX7_take_52 : decode cX7_take 52 = .ok (.invokevirtual 143, 3) := by decide +kernel
theorem dX7_take_55 : decode cX7_take 55 = .ok (.aload_n 0, 1) := by decide +kernel
theorem dX7_take_56 : decode cX7_take 56 = .ok (.getfield 10, 3) := by decide +kernel
theorem dX7_take_59 : decode cX7_take 59 = .ok (.getfield 84, 3) := by decide +kernel
theorem dX7_take_62 : decode cX7_take 62 = .ok (.aload_n 0, 1) := by decide +kernel
theorem dX7_take_63 : decode cX7_take 63 = .ok (.getfield 43, 3) := by decide +kernel
theorem dX7_take_66 : decode cX7_take 66 = .ok (.getfield 146, 3) := by decide +kernel
theorem dX7_take_69 : decode cX7_take 69 = .ok (.invokevirtual 143, 3) := by decide +kernel
theorem dX7_take_72 : decode cX7_take 72 = .ok (.aload_n 0, 1) := by decide +kernel
theorem dX7_take_73 : decode cX7_take 73 = .ok (.getfield 10, 3) := by decide +kernel
theorem dX7_take_76 : decode cX7_take 76 = .ok (.dup, 1) := by decide +kernel
theorem dX7_take_77 : decode cX7_take 77 = .ok (.getfield 147, 3) := by decide +kernel
theorem dX7_take_80 : decode cX7_take 80 = .ok (.iconst 1, 1) := by decide +kernel
theorem dX7_take_81 : decode cX7_take 81 = .ok (.iadd, 1) := by decide +kernel
theorem dX7_take_82 : decode cX7_take 82 = .ok (.putfield 147, 3) := by decide +kernel
theorem dX7_take_85 : decode cX7_take 85 = .ok (.aload_n 0, 1) := by decide +kernel
theorem dX7_take_86 : decode cX7_take 86 = .ok (.getfield 10, 3) := by decide +kernel
theorem dX7_take_89 : decode cX7_take 89 = .ok (.dup, 1) := by decide +kernel
theorem dX7_take_90 : decode cX7_take 90 = .ok (.getfield 150, 3) := by decide +kernel
theorem dX7_take_93 : decode cX7_take 93 = .ok (.aload_n 0, 1) := by decide +kernel
theorem dX7_take_94 : decode cX7_take 94 = .ok (.getfield 10, 3) := by decide +kernel
theorem dX7_take_97 : decode cX7_take 97 = .ok (.getfield 91, 3) := by decide +kernel
theorem dX7_take_100 : decode cX7_take 100 = .ok (.getfield 111, 3) := by decide +kernel
theorem dX7_take_103 : decode cX7_take 103 = .ok (.aload_n 0, 1) := by decide +kernel
theorem dX7_take_104 : decode cX7_take 104 = .ok (.getfield 43, 3) := by decide +kernel
theorem dX7_take_107 : decode cX7_take 107 = .ok (.getfield 153, 3) := by decide +kernel
theorem dX7_take_110 : decode cX7_take 110 = .ok (.isub, 1) := by decide +kernel
theorem dX7_take_111 : decode cX7_take 111 = .ok (.iadd, 1) := by decide +kernel
theorem dX7_take_112 : decode cX7_take 112 = .ok (.putfield 150, 3) := by decide +kernel
theorem dX7_take_115 : decode cX7_take 115 = .ok (.aload_n 0, 1) := by decide +kernel
theorem dX7_take_116 : decode cX7_take 116 = .ok (.getfield 10, 3) := by decide +kernel
theorem dX7_take_119 : decode cX7_take 119 = .ok (.dup, 1) := by decide +kernel
theorem dX7_take_120 : decode cX7_take 120 = .ok (.getfield 156, 3) := by decide +kernel
theorem dX7_take_123 : decode cX7_take 123 = .ok (.aload_n 0, 1) := by decide +kernel
theorem dX7_take_124 : decode cX7_take 124 = .ok (.getfield 43, 3) := by decide +kernel
theorem dX7_take_127 : decode cX7_take 127 = .ok (.getfield 153, 3) := by decide +kernel
theorem dX7_take_130 : decode cX7_take 130 = .ok (.iadd, 1) := by decide +kernel
theorem dX7_take_131 : decode cX7_take 131 = .ok (.putfield 156, 3) := by decide +kernel
theorem dX7_take_134 : decode cX7_take 134 = .ok (.aload_n 0, 1) := by decide +kernel
theorem dX7_take_135 : decode cX7_take 135 = .ok (.getfield 10, 3) := by decide +kernel
theorem dX7_take_138 : decode cX7_take 138 = .ok (.dup, 1) := by decide +kernel
theorem dX7_take_139 : decode cX7_take 139 = .ok (.getfield 157, 3) := by decide +kernel
theorem dX7_take_142 : decode cX7_take 142 = .ok (.aload_n 0, 1) := by decide +kernel
theorem dX7_take_143 : decode cX7_take 143 = .ok (.getfield 43, 3) := by decide +kernel
theorem dX7_take_146 : decode cX7_take 146 = .ok (.getfield 160, 3) := by decide +kernel
theorem dX7_take_149 : decode cX7_take 149 = .ok (.iadd, 1) := by decide +kernel
theorem dX7_take_150 : decode cX7_take 150 = .ok (.putfield 157, 3) := by decide +kernel
theorem dX7_take_153 : decode cX7_take 153 = .ok (.aload_n 0, 1) := by decide +kernel
theorem dX7_take_154 : decode cX7_take 154 = .ok (.getfield 43, 3) := by decide +kernel
theorem dX7_take_157 : decode cX7_take 157 = .ok (.getfield 153, 3) := by decide +kernel
theorem dX7_take_160 : decode cX7_take 160 = .ok (.ireturn, 1) := by decide +kernel
set_option maxRecDepth 20000 in
theorem ggX7_take_X2_record : GoodIn wsX7_take wsX2_record := goodIn_r _ [8, 9, 10, 11, 12, 13, 7, 14, 15, 16, 17, 18, 19, 20, 21, 22, 23, 24, 25, 26, 27, 28, 29, 30, 31, 32, 33, 34, 35, 36, 37, 38, 39, 40, 41, 42, 43, 44, 45, 46, 47, 48, 49, 50, 51, 52, 53, 54, 55, 56, 57, 58, 59, 60, 61, 186, 187, 154, 155, 156, 157, 158, 159, 160, 161, 162, 163, 164, 188, 165, 166, 167, 168, 169, 170] (by decide +kernel) (by decide +kernel)
set_option maxRecDepth 20000 in
theorem gX7_take_X2_record : GoodIn wsX7_take (wsV RX7 68 RX2 yX2_record wsX2_record) := goodIn_app (goodIn_of _ (by decide +kernel)) ggX7_take_X2_record
set_option maxRecDepth 20000 in
theorem ggX7_take_X4_copyFrom : GoodIn wsX7_take wsX4_copyFrom := goodIn_r _ [39, 40, 41, 42, 43, 44, 45, 46, 47, 48, 188] (by decide +kernel) (by decide +kernel)
set_option maxRecDepth 20000 in
theorem gX7_take_X4_copyFrom : GoodIn wsX7_take (wsV RX7 143 RX4 yX4_copyFrom wsX4_copyFrom) := goodIn_app (goodIn_of _ (by decide +kernel)) ggX7_take_X4_copyFrom
set_option maxRecDepth 20000 in
theorem ggX7_take_X7_rehearse : GoodIn wsX7_take wsX7_rehearse := goodIn_r _ [66, 3, 1, 67, 68, 69, 70, 71, 72, 73, 74, 75, 36, 37, 38, 39, 40, 41, 42, 43, 44, 45, 46, 47, 48, 76, 77, 78, 79, 80, 81, 82, 83, 84, 85, 86, 87, 88, 89, 90, 91, 92, 93, 94, 95, 96, 97, 98, 99, 100, 101, 102, 103, 104, 105, 106, 107, 108, 109, 110, 111, 112, 113, 114, 115, 116, 117, 118, 119, 120, 121, 122, 123, 124, 125, 126, 127, 128, 129, 130, 131, 132, 133, 134, 135, 136, 137, 138, 139, 52, 140, 54, 57, 141, 142, 143, 144, 145, 147, 148, 149, 150, 151, 152, 153, 171, 172, 173, 174, 175, 176, 177, 178, 179, 180, 181, 182, 183, 184, 185, 154, 155, 156, 157, 158, 159, 160, 161, 162, 163, 164, 188, 165, 166, 167, 168, 169, 170] (by decide +kernel) (by decide +kernel)
set_option maxRecDepth 20000 in
theorem gX7_take_X7_rehearse : GoodIn wsX7_take (wsV RX7 136 RX7 yX7_rehearse wsX7_rehearse) := goodIn_app (goodIn_of _ (by decide +kernel)) ggX7_take_X7_rehearse
theorem iX7_take_0 : ∀ w ∈ u_ws RX0 TX0 6, w ∈ wsX7_take := fun w h => List.mem_cons_of_mem _ (List.mem_append_left _ (List.mem_append_left _ (List.mem_append_left _ (List.mem_append_right _ (h)))))
theorem iX7_take_3 : ∀ w ∈ u_ws RX3 TX3 15, w ∈ wsX7_take := fun w h => List.mem_cons_of_mem _ (List.mem_append_left _ (List.mem_append_left _ (List.mem_append_right _ (h))))
theorem iX7_take_5 : ∀ w ∈ u_ws RX5 TX5 11, w ∈ wsX7_take := fun w h => List.mem_cons_of_mem _ (List.mem_append_left _ (List.mem_append_left _ (List.mem_append_left _ (List.mem_append_left _ (List.mem_append_right _ (h))))))
theorem iX7_take_7 : ∀ w ∈ u_ws RX7 TX7 7, w ∈ wsX7_take := fun w h => List.mem_cons_of_mem _ (List.mem_append_left _ (List.mem_append_left _ (List.mem_append_left _ (List.mem_append_left _ (List.mem_append_left _ (List.mem_append_right _ (h)))))))
set_option maxHeartbeats 4000000 in
set_option maxRecDepth 100000 in
theorem c_X7_take {E : EE} {l : Launch} {g : GG} {ad : Nat → Nat} (hg : gwf g) {o0 : Nat} {M : Mm} {Q : Int → Mm → Prop} (k_o0 : gk g o0 = 7) (h : p_X7_take g o0 M Q) : Ct E l yX7_take wsX7_take rmX7_take g ad [.ref (ad o0)] M (QI E g ad Q) := by
  refine ent (cc := cX7_take) (maxL := 1) (ret := (some .int)) (own := RX7) (by decide +kernel) rfl rfl (Nat.le_of_ble_eq_true rfl) ?_
  intro p e s m below meth c ls X hr hlk K w hl
  have hl : lv_has ls 1 [(0, .ref (ad o0))] := hl
  unfold p_X7_take at h
  refine lv_aload_n X.1 X.2.1 dX7_take_0 rfl (lv_at hl 0 rfl) ?_
  refine r_getr (N := 7) (T := TX7) X K w iX7_take_7 k_o0 rfl (by decide) 0 (by decide) rfl rfl (List.mem_of_getElem? (i := 1) rfl) dX7_take_1 ?_
  have k1 : gk g (o0 + 1) = 5 := gch hg k_o0 (by decide) 0 (by decide) rfl rfl
  refine r_getrN (N := 11) (T := TX5) X K w iX7_take_5 k1 rfl (by decide) 4 (by decide) rfl rfl (List.mem_of_getElem? (i := 16) rfl) dX7_take_4 ?_
  have k2 : gk g ((o0 + 1) + 9) = 0 := gch hg k1 (by decide) 4 (by decide) rfl rfl
  refine r_getiN (N := 6) (T := TX0) (kz := 5) X K w iX7_take_0 k2 rfl (by decide) 5 (by decide) rfl rfl rfl (List.mem_of_getElem? (i := 8) rfl) dX7_take_7 ?_
  obtain ⟨i0, h1, h2⟩ := h
  refine r_if_ne (tgt := 16) X i0 dX7_take_10 (by decide) (fun cc => ?_) (fun cc => ?_)
  · have h := h1 cc
    refine lv_aload_n X.1 X.2.1 dX7_take_16 rfl (lv_at hl 0 rfl) ?_
    refine r_getr (N := 7) (T := TX7) X K w iX7_take_7 k_o0 rfl (by decide) 2 (by decide) rfl rfl (List.mem_of_getElem? (i := 2) rfl) dX7_take_17 ?_
    have k3 : gk g (o0 + 37) = 2 := gch hg k_o0 (by decide) 2 (by decide) rfl rfl
    refine lv_aload_n X.1 X.2.1 dX7_take_20 rfl (lv_at hl 0 rfl) ?_
    refine r_getr (N := 7) (T := TX7) X K w iX7_take_7 k_o0 rfl (by decide) 0 (by decide) rfl rfl (List.mem_of_getElem? (i := 1) rfl) dX7_take_21 ?_
    have k4 : gk g (o0 + 1) = 5 := gch hg k_o0 (by decide) 0 (by decide) rfl rfl
    refine q_v (x_V (As := [.ref (ad (o0 + 1))]) (rest := []) X K w (c_X2_record hg k3 k4 h) (cwV 1 X.2.2.2.2 gX7_take_X2_record rfl rfl rfl (by decide +kernel) ⟨Nat.le_of_ble_eq_true rfl, Nat.le_of_ble_eq_true rfl⟩) k3 (by decide) rfl rfl hl rfl (Nat.le_of_ble_eq_true rfl) dX7_take_24 ⟨Nat.le_of_ble_eq_true rfl, Nat.le_of_ble_eq_true rfl⟩) w (fun M5 H locs h w => ?_)
    refine lv_aload_n X.1 X.2.1 dX7_take_27 rfl (lv_at hl 0 rfl) ?_
    refine lv_aload_n X.1 X.2.1 dX7_take_28 rfl (lv_at hl 0 rfl) ?_
    refine r_getr (N := 7) (T := TX7) X K w iX7_take_7 k_o0 rfl (by decide) 0 (by decide) rfl rfl (List.mem_of_getElem? (i := 1) rfl) dX7_take_29 ?_
    have k6 : gk g (o0 + 1) = 5 := gch hg k_o0 (by decide) 0 (by decide) rfl rfl
    refine r_getiN (N := 11) (T := TX5) (kz := 5) X K w iX7_take_5 k6 rfl (by decide) 5 (by decide) rfl rfl rfl (List.mem_of_getElem? (i := 18) rfl) dX7_take_32 ?_
    refine q_v (x_V (As := [cI (M5 (o0 + 1) 5)]) (rest := []) X K w (c_X7_rehearse hg k_o0 h) (cwV 1 X.2.2.2.2 gX7_take_X7_rehearse rfl rfl rfl (by decide +kernel) ⟨Nat.le_of_ble_eq_true rfl, Nat.le_of_ble_eq_true rfl⟩) k_o0 (by decide) rfl rfl hl rfl (Nat.le_of_ble_eq_true rfl) dX7_take_35 ⟨Nat.le_of_ble_eq_true rfl, Nat.le_of_ble_eq_true rfl⟩) w (fun M7 H locs h w => ?_)
    refine lv_aload_n X.1 X.2.1 dX7_take_38 rfl (lv_at hl 0 rfl) ?_
    refine r_getr (N := 7) (T := TX7) X K w iX7_take_7 k_o0 rfl (by decide) 0 (by decide) rfl rfl (List.mem_of_getElem? (i := 1) rfl) dX7_take_39 ?_
    have k8 : gk g (o0 + 1) = 5 := gch hg k_o0 (by decide) 0 (by decide) rfl rfl
    refine r_getrN (N := 11) (T := TX5) X K w iX7_take_5 k8 rfl (by decide) 1 (by decide) rfl rfl (List.mem_of_getElem? (i := 11) rfl) dX7_take_42 ?_
    have k9 : gk g ((o0 + 1) + 3) = 4 := gch hg k8 (by decide) 1 (by decide) rfl rfl
    refine lv_aload_n X.1 X.2.1 dX7_take_45 rfl (lv_at hl 0 rfl) ?_
    refine r_getr (N := 7) (T := TX7) X K w iX7_take_7 k_o0 rfl (by decide) 5 (by decide) rfl rfl (List.mem_of_getElem? (i := 3) rfl) dX7_take_46 ?_
    have k10 : gk g (o0 + 124) = 3 := gch hg k_o0 (by decide) 5 (by decide) rfl rfl
    refine r_getrN (N := 15) (T := TX3) X K w iX7_take_3 k10 rfl (by decide) 0 (by decide) rfl rfl (List.mem_of_getElem? (i := 32) rfl) dX7_take_49 ?_
    have k11 : gk g ((o0 + 124) + 1) = 4 := gch hg k10 (by decide) 0 (by decide) rfl rfl
    refine q_v (x_V (As := [.ref (ad ((o0 + 124) + 1))]) (rest := []) X K w (c_X4_copyFrom hg k9 k11 h) (cwV 1 X.2.2.2.2 gX7_take_X4_copyFrom rfl rfl rfl (by decide +kernel) ⟨Nat.le_of_ble_eq_true rfl, Nat.le_of_ble_eq_true rfl⟩) k9 (by decide) rfl rfl hl rfl (Nat.le_of_ble_eq_true rfl) dX7_take_52 ⟨Nat.le_of_ble_eq_true rfl, Nat.le_of_ble_eq_true rfl⟩) w (fun M12 H locs h w => ?_)
    refine lv_aload_n X.1 X.2.1 dX7_take_55 rfl (lv_at hl 0 rfl) ?_
    refine r_getr (N := 7) (T := TX7) X K w iX7_take_7 k_o0 rfl (by decide) 0 (by decide) rfl rfl (List.mem_of_getElem? (i := 1) rfl) dX7_take_56 ?_
    have k13 : gk g (o0 + 1) = 5 := gch hg k_o0 (by decide) 0 (by decide) rfl rfl
    refine r_getrN (N := 11) (T := TX5) X K w iX7_take_5 k13 rfl (by decide) 3 (by decide) rfl rfl (List.mem_of_getElem? (i := 14) rfl) dX7_take_59 ?_
    have k14 : gk g ((o0 + 1) + 7) = 4 := gch hg k13 (by decide) 3 (by decide) rfl rfl
    refine lv_aload_n X.1 X.2.1 dX7_take_62 rfl (lv_at hl 0 rfl) ?_
    refine r_getr (N := 7) (T := TX7) X K w iX7_take_7 k_o0 rfl (by decide) 5 (by decide) rfl rfl (List.mem_of_getElem? (i := 3) rfl) dX7_take_63 ?_
    have k15 : gk g (o0 + 124) = 3 := gch hg k_o0 (by decide) 5 (by decide) rfl rfl
    refine r_getrN (N := 15) (T := TX3) X K w iX7_take_3 k15 rfl (by decide) 3 (by decide) rfl rfl (List.mem_of_getElem? (i := 33) rfl) dX7_take_66 ?_
    have k16 : gk g ((o0 + 124) + 7) = 4 := gch hg k15 (by decide) 3 (by decide) rfl rfl
    refine q_v (x_V (As := [.ref (ad ((o0 + 124) + 7))]) (rest := []) X K w (c_X4_copyFrom hg k14 k16 h) (cwV 1 X.2.2.2.2 gX7_take_X4_copyFrom rfl rfl rfl (by decide +kernel) ⟨Nat.le_of_ble_eq_true rfl, Nat.le_of_ble_eq_true rfl⟩) k14 (by decide) rfl rfl hl rfl (Nat.le_of_ble_eq_true rfl) dX7_take_69 ⟨Nat.le_of_ble_eq_true rfl, Nat.le_of_ble_eq_true rfl⟩) w (fun M17 H locs h w => ?_)
    refine lv_aload_n X.1 X.2.1 dX7_take_72 rfl (lv_at hl 0 rfl) ?_
    refine r_getr (N := 7) (T := TX7) X K w iX7_take_7 k_o0 rfl (by decide) 0 (by decide) rfl rfl (List.mem_of_getElem? (i := 1) rfl) dX7_take_73 ?_
    have k18 : gk g (o0 + 1) = 5 := gch hg k_o0 (by decide) 0 (by decide) rfl rfl
    refine lv_dup X.1 X.2.1 dX7_take_76 rfl ?_
    refine r_getiN (N := 11) (T := TX5) (kz := 7) X K w iX7_take_5 k18 rfl (by decide) 7 (by decide) rfl rfl rfl (List.mem_of_getElem? (i := 21) rfl) dX7_take_77 ?_
    refine r_iconst X dX7_take_80 ?_
    refine r_iadd X dX7_take_81 ?_
    refine r_putiN (N := 11) (T := TX5) (kz := 7) (ty := .int) X K w iX7_take_5 tyX5 tyX5_ok nmX5 k18 rfl (by decide) 7 (by decide) rfl rfl rfl rfl (by decide +kernel) rfl rfl (List.mem_of_getElem? (i := 21) rfl) dX7_take_82 (fun M19 H locs e w => ?_)
    replace h := h M19 e
    refine lv_aload_n X.1 X.2.1 dX7_take_85 rfl (lv_at hl 0 rfl) ?_
    refine r_getr (N := 7) (T := TX7) X K w iX7_take_7 k_o0 rfl (by decide) 0 (by decide) rfl rfl (List.mem_of_getElem? (i := 1) rfl) dX7_take_86 ?_
    have k20 : gk g (o0 + 1) = 5 := gch hg k_o0 (by decide) 0 (by decide) rfl rfl
    refine lv_dup X.1 X.2.1 dX7_take_89 rfl ?_
    refine r_getiN (N := 11) (T := TX5) (kz := 8) X K w iX7_take_5 k20 rfl (by decide) 8 (by decide) rfl rfl rfl (List.mem_of_getElem? (i := 22) rfl) dX7_take_90 ?_
    refine lv_aload_n X.1 X.2.1 dX7_take_93 rfl (lv_at hl 0 rfl) ?_
    refine r_getr (N := 7) (T := TX7) X K w iX7_take_7 k_o0 rfl (by decide) 0 (by decide) rfl rfl (List.mem_of_getElem? (i := 1) rfl) dX7_take_94 ?_
    have k21 : gk g (o0 + 1) = 5 := gch hg k_o0 (by decide) 0 (by decide) rfl rfl
    refine r_getrN (N := 11) (T := TX5) X K w iX7_take_5 k21 rfl (by decide) 4 (by decide) rfl rfl (List.mem_of_getElem? (i := 16) rfl) dX7_take_97 ?_
    have k22 : gk g ((o0 + 1) + 9) = 0 := gch hg k21 (by decide) 4 (by decide) rfl rfl
    refine r_getiN (N := 6) (T := TX0) (kz := 5) X K w iX7_take_0 k22 rfl (by decide) 5 (by decide) rfl rfl rfl (List.mem_of_getElem? (i := 8) rfl) dX7_take_100 ?_
    refine lv_aload_n X.1 X.2.1 dX7_take_103 rfl (lv_at hl 0 rfl) ?_
    refine r_getr (N := 7) (T := TX7) X K w iX7_take_7 k_o0 rfl (by decide) 5 (by decide) rfl rfl (List.mem_of_getElem? (i := 3) rfl) dX7_take_104 ?_
    have k23 : gk g (o0 + 124) = 3 := gch hg k_o0 (by decide) 5 (by decide) rfl rfl
    refine r_getiN (N := 15) (T := TX3) (kz := 13) X K w iX7_take_3 k23 rfl (by decide) 13 (by decide) rfl rfl rfl (List.mem_of_getElem? (i := 42) rfl) dX7_take_107 ?_
    refine r_isub X dX7_take_110 ?_
    refine r_iadd X dX7_take_111 ?_
    refine r_putiN (N := 11) (T := TX5) (kz := 8) (ty := .int) X K w iX7_take_5 tyX5 tyX5_ok nmX5 k20 rfl (by decide) 8 (by decide) rfl rfl rfl rfl (by decide +kernel) rfl rfl (List.mem_of_getElem? (i := 22) rfl) dX7_take_112 (fun M24 H locs e w => ?_)
    replace h := h M24 e
    refine lv_aload_n X.1 X.2.1 dX7_take_115 rfl (lv_at hl 0 rfl) ?_
    refine r_getr (N := 7) (T := TX7) X K w iX7_take_7 k_o0 rfl (by decide) 0 (by decide) rfl rfl (List.mem_of_getElem? (i := 1) rfl) dX7_take_116 ?_
    have k25 : gk g (o0 + 1) = 5 := gch hg k_o0 (by decide) 0 (by decide) rfl rfl
    refine lv_dup X.1 X.2.1 dX7_take_119 rfl ?_
    refine r_getiN (N := 11) (T := TX5) (kz := 9) X K w iX7_take_5 k25 rfl (by decide) 9 (by decide) rfl rfl rfl (List.mem_of_getElem? (i := 23) rfl) dX7_take_120 ?_
    refine lv_aload_n X.1 X.2.1 dX7_take_123 rfl (lv_at hl 0 rfl) ?_
    refine r_getr (N := 7) (T := TX7) X K w iX7_take_7 k_o0 rfl (by decide) 5 (by decide) rfl rfl (List.mem_of_getElem? (i := 3) rfl) dX7_take_124 ?_
    have k26 : gk g (o0 + 124) = 3 := gch hg k_o0 (by decide) 5 (by decide) rfl rfl
    refine r_getiN (N := 15) (T := TX3) (kz := 13) X K w iX7_take_3 k26 rfl (by decide) 13 (by decide) rfl rfl rfl (List.mem_of_getElem? (i := 42) rfl) dX7_take_127 ?_
    refine r_iadd X dX7_take_130 ?_
    refine r_putiN (N := 11) (T := TX5) (kz := 9) (ty := .int) X K w iX7_take_5 tyX5 tyX5_ok nmX5 k25 rfl (by decide) 9 (by decide) rfl rfl rfl rfl (by decide +kernel) rfl rfl (List.mem_of_getElem? (i := 23) rfl) dX7_take_131 (fun M27 H locs e w => ?_)
    replace h := h M27 e
    refine lv_aload_n X.1 X.2.1 dX7_take_134 rfl (lv_at hl 0 rfl) ?_
    refine r_getr (N := 7) (T := TX7) X K w iX7_take_7 k_o0 rfl (by decide) 0 (by decide) rfl rfl (List.mem_of_getElem? (i := 1) rfl) dX7_take_135 ?_
    have k28 : gk g (o0 + 1) = 5 := gch hg k_o0 (by decide) 0 (by decide) rfl rfl
    refine lv_dup X.1 X.2.1 dX7_take_138 rfl ?_
    refine r_getiN (N := 11) (T := TX5) (kz := 10) X K w iX7_take_5 k28 rfl (by decide) 10 (by decide) rfl rfl rfl (List.mem_of_getElem? (i := 24) rfl) dX7_take_139 ?_
    refine lv_aload_n X.1 X.2.1 dX7_take_142 rfl (lv_at hl 0 rfl) ?_
    refine r_getr (N := 7) (T := TX7) X K w iX7_take_7 k_o0 rfl (by decide) 5 (by decide) rfl rfl (List.mem_of_getElem? (i := 3) rfl) dX7_take_143 ?_
    have k29 : gk g (o0 + 124) = 3 := gch hg k_o0 (by decide) 5 (by decide) rfl rfl
    refine r_getiN (N := 15) (T := TX3) (kz := 14) X K w iX7_take_3 k29 rfl (by decide) 14 (by decide) rfl rfl rfl (List.mem_of_getElem? (i := 43) rfl) dX7_take_146 ?_
    refine r_iadd X dX7_take_149 ?_
    refine r_putiN (N := 11) (T := TX5) (kz := 10) (ty := .int) X K w iX7_take_5 tyX5 tyX5_ok nmX5 k28 rfl (by decide) 10 (by decide) rfl rfl rfl rfl (by decide +kernel) rfl rfl (List.mem_of_getElem? (i := 24) rfl) dX7_take_150 (fun M30 H locs e w => ?_)
    replace h := h M30 e
    refine lv_aload_n X.1 X.2.1 dX7_take_153 rfl (lv_at hl 0 rfl) ?_
    refine r_getr (N := 7) (T := TX7) X K w iX7_take_7 k_o0 rfl (by decide) 5 (by decide) rfl rfl (List.mem_of_getElem? (i := 3) rfl) dX7_take_154 ?_
    have k31 : gk g (o0 + 124) = 3 := gch hg k_o0 (by decide) 5 (by decide) rfl rfl
    refine r_getiN (N := 15) (T := TX3) (kz := 13) X K w iX7_take_3 k31 rfl (by decide) 13 (by decide) rfl rfl rfl (List.mem_of_getElem? (i := 42) rfl) dX7_take_157 ?_
    exact r_ireturn X hr hlk K w h dX7_take_160
  · have h := h2 cc
    refine r_bipush X dX7_take_13 (by decide +kernel) ?_
    exact r_ireturn X hr hlk K w h dX7_take_15
theorem dX7_type_0 : decode cX7_type 0 = .ok (.aload_n 0, 1) := by decide +kernel
theorem dX7_type_1 : decode cX7_type 1 = .ok (.getfield 29, 3) := by decide +kernel
theorem dX7_type_4 : decode cX7_type 4 = .ok (.getfield 161, 3) := by decide +kernel
theorem dX7_type_7 : decode cX7_type 7 = .ok (.bipush 60, 2) := by decide +kernel
theorem dX7_type_9 : decode cX7_type 9 = .ok (.if_icmp .lt 6, 3) := by decide +kernel
theorem dX7_type_12 : decode cX7_type 12 = .ok (.bipush (-3), 2) := by decide +kernel
theorem dX7_type_14 : decode cX7_type 14 = .ok (.ireturn, 1) := by decide +kernel
theorem dX7_type_15 : decode cX7_type 15 = .ok (.aload_n 0, 1) := by decide +kernel
theorem dX7_type_16 : decode cX7_type 16 = .ok (.getfield 29, 3) := by decide +kernel
theorem dX7_type_19 : decode cX7_type 19 = .ok (.iload_n 1, 1) := by decide +kernel
theorem dX7_type_20 : decode cX7_type 20 = .ok (.invokevirtual 164, 3) := by decide +kernel
theorem dX7_type_23 : decode cX7_type 23 = .ok (.aload_n 0, 1) := by decide +kernel
theorem dX7_type_24 : decode cX7_type 24 = .ok (.getfield 29, 3) := by decide +kernel
theorem dX7_type_27 : decode cX7_type 27 = .ok (.getfield 161, 3) := by decide +kernel
theorem dX7_type_30 : decode cX7_type 30 = .ok (.ireturn, 1) := by decide +kernel
set_option maxRecDepth 20000 in
theorem ggX7_type_X6_append : GoodIn wsX7_type wsX6_append := goodIn_r _ [6, 7, 8, 9, 10, 11, 12, 13, 14, 22, 23, 24] (by decide +kernel) (by decide +kernel)
set_option maxRecDepth 20000 in
theorem gX7_type_X6_append : GoodIn wsX7_type (wsV RX7 164 RX6 yX6_append wsX6_append) := goodIn_app (goodIn_of _ (by decide +kernel)) ggX7_type_X6_append
theorem iX7_type_6 : ∀ w ∈ u_ws RX6 TX6 2, w ∈ wsX7_type := fun w h => List.mem_cons_of_mem _ (List.mem_append_left _ (List.mem_append_right _ (h)))
theorem iX7_type_7 : ∀ w ∈ u_ws RX7 TX7 7, w ∈ wsX7_type := fun w h => List.mem_cons_of_mem _ (List.mem_append_left _ (List.mem_append_left _ (List.mem_append_right _ (h))))
set_option maxHeartbeats 4000000 in
set_option maxRecDepth 100000 in
theorem c_X7_type {E : EE} {l : Launch} {g : GG} {ad : Nat → Nat} (hg : gwf g) {o0 : Nat} {x1 : Int} {M : Mm} {Q : Int → Mm → Prop} (k_o0 : gk g o0 = 7) (h : p_X7_type g o0 x1 M Q) : Ct E l yX7_type wsX7_type rmX7_type g ad [.ref (ad o0), cI x1] M (QI E g ad Q) := by
  refine ent (cc := cX7_type) (maxL := 2) (ret := (some .int)) (own := RX7) (by decide +kernel) rfl rfl (Nat.le_of_ble_eq_true rfl) ?_
  intro p e s m below meth c ls X hr hlk K w hl
  have hl : lv_has ls 2 [(0, .ref (ad o0)), (1, cI x1)] := hl
  unfold p_X7_type at h
  refine lv_aload_n X.1 X.2.1 dX7_type_0 rfl (lv_at hl 0 rfl) ?_
  refine r_getr (N := 7) (T := TX7) X K w iX7_type_7 k_o0 rfl (by decide) 3 (by decide) rfl rfl (List.mem_of_getElem? (i := 1) rfl) dX7_type_1 ?_
  have k1 : gk g (o0 + 111) = 6 := gch hg k_o0 (by decide) 3 (by decide) rfl rfl
  refine r_getiN (N := 2) (T := TX6) (kz := 1) X K w iX7_type_6 k1 rfl (by decide) 1 (by decide) rfl rfl rfl (List.mem_of_getElem? (i := 27) rfl) dX7_type_4 ?_
  refine r_bipush X dX7_type_7 (by decide +kernel) ?_
  obtain ⟨i0, h1, h2⟩ := h
  refine r_icmp_lt (tgt := 15) X i0 ⟨by decide, by decide⟩ dX7_type_9 (by decide) (fun cc => ?_) (fun cc => ?_)
  · have h := h1 cc
    refine lv_aload_n X.1 X.2.1 dX7_type_15 rfl (lv_at hl 0 rfl) ?_
    refine r_getr (N := 7) (T := TX7) X K w iX7_type_7 k_o0 rfl (by decide) 3 (by decide) rfl rfl (List.mem_of_getElem? (i := 1) rfl) dX7_type_16 ?_
    have k2 : gk g (o0 + 111) = 6 := gch hg k_o0 (by decide) 3 (by decide) rfl rfl
    refine lv_iload_n X.1 X.2.1 dX7_type_19 rfl (lv_at hl 1 rfl) ?_
    refine q_v (x_V (As := [cI x1]) (rest := []) X K w (c_X6_append hg k2 h) (cwV 1 X.2.2.2.2 gX7_type_X6_append rfl rfl rfl (by decide +kernel) ⟨Nat.le_of_ble_eq_true rfl, Nat.le_of_ble_eq_true rfl⟩) k2 (by decide) rfl rfl hl rfl (Nat.le_of_ble_eq_true rfl) dX7_type_20 ⟨Nat.le_of_ble_eq_true rfl, Nat.le_of_ble_eq_true rfl⟩) w (fun M3 H locs h w => ?_)
    refine lv_aload_n X.1 X.2.1 dX7_type_23 rfl (lv_at hl 0 rfl) ?_
    refine r_getr (N := 7) (T := TX7) X K w iX7_type_7 k_o0 rfl (by decide) 3 (by decide) rfl rfl (List.mem_of_getElem? (i := 1) rfl) dX7_type_24 ?_
    have k4 : gk g (o0 + 111) = 6 := gch hg k_o0 (by decide) 3 (by decide) rfl rfl
    refine r_getiN (N := 2) (T := TX6) (kz := 1) X K w iX7_type_6 k4 rfl (by decide) 1 (by decide) rfl rfl rfl (List.mem_of_getElem? (i := 27) rfl) dX7_type_27 ?_
    exact r_ireturn X hr hlk K w h dX7_type_30
  · have h := h2 cc
    refine r_bipush X dX7_type_12 (by decide +kernel) ?_
    exact r_ireturn X hr hlk K w h dX7_type_14
theorem dX7_clearText_0 : decode cX7_clearText 0 = .ok (.aload_n 0, 1) := by decide +kernel
theorem dX7_clearText_1 : decode cX7_clearText 1 = .ok (.getfield 29, 3) := by decide +kernel
theorem dX7_clearText_4 : decode cX7_clearText 4 = .ok (.getfield 161, 3) := by decide +kernel
theorem dX7_clearText_7 : decode cX7_clearText 7 = .ok (.istore_n 1, 1) := by decide +kernel
theorem dX7_clearText_8 : decode cX7_clearText 8 = .ok (.aload_n 0, 1) := by decide +kernel
theorem dX7_clearText_9 : decode cX7_clearText 9 = .ok (.getfield 29, 3) := by decide +kernel
theorem dX7_clearText_12 : decode cX7_clearText 12 = .ok (.iconst 0, 1) := by decide +kernel
theorem dX7_clearText_13 : decode cX7_clearText 13 = .ok (.putfield 161, 3) := by decide +kernel
theorem dX7_clearText_16 : decode cX7_clearText 16 = .ok (.iload_n 1, 1) := by decide +kernel
theorem dX7_clearText_17 : decode cX7_clearText 17 = .ok (.ireturn, 1) := by decide +kernel
theorem iX7_clearText_6 : ∀ w ∈ u_ws RX6 TX6 2, w ∈ wsX7_clearText := fun w h => List.mem_cons_of_mem _ (List.mem_append_right _ (h))
theorem iX7_clearText_7 : ∀ w ∈ u_ws RX7 TX7 7, w ∈ wsX7_clearText := fun w h => List.mem_cons_of_mem _ (List.mem_append_left _ (List.mem_append_right _ (h)))
set_option maxHeartbeats 4000000 in
set_option maxRecDepth 100000 in
theorem c_X7_clearText {E : EE} {l : Launch} {g : GG} {ad : Nat → Nat} (hg : gwf g) {o0 : Nat} {M : Mm} {Q : Int → Mm → Prop} (k_o0 : gk g o0 = 7) (h : p_X7_clearText g o0 M Q) : Ct E l yX7_clearText wsX7_clearText rmX7_clearText g ad [.ref (ad o0)] M (QI E g ad Q) := by
  refine ent (cc := cX7_clearText) (maxL := 2) (ret := (some .int)) (own := RX7) (by decide +kernel) rfl rfl (Nat.le_of_ble_eq_true rfl) ?_
  intro p e s m below meth c ls X hr hlk K w hl
  have hl : lv_has ls 2 [(0, .ref (ad o0))] := hl
  unfold p_X7_clearText at h
  refine lv_aload_n X.1 X.2.1 dX7_clearText_0 rfl (lv_at hl 0 rfl) ?_
  refine r_getr (N := 7) (T := TX7) X K w iX7_clearText_7 k_o0 rfl (by decide) 3 (by decide) rfl rfl (List.mem_of_getElem? (i := 1) rfl) dX7_clearText_1 ?_
  have k1 : gk g (o0 + 111) = 6 := gch hg k_o0 (by decide) 3 (by decide) rfl rfl
  refine r_getiN (N := 2) (T := TX6) (kz := 1) X K w iX7_clearText_6 k1 rfl (by decide) 1 (by decide) rfl rfl rfl (List.mem_of_getElem? (i := 27) rfl) dX7_clearText_4 ?_
  refine lv_istore_n (lv' := [(1, cI (M (o0 + 111) 1)), (0, .ref (ad o0))]) X.1 X.2.1 dX7_clearText_7 rfl hl (by decide) rfl (fun ls hl => ?_)
  refine lv_aload_n X.1 X.2.1 dX7_clearText_8 rfl (lv_at hl 1 rfl) ?_
  refine r_getr (N := 7) (T := TX7) X K w iX7_clearText_7 k_o0 rfl (by decide) 3 (by decide) rfl rfl (List.mem_of_getElem? (i := 1) rfl) dX7_clearText_9 ?_
  have k2 : gk g (o0 + 111) = 6 := gch hg k_o0 (by decide) 3 (by decide) rfl rfl
  refine r_iconst X dX7_clearText_12 ?_
  refine r_putiN (N := 2) (T := TX6) (kz := 1) (ty := .int) X K w iX7_clearText_6 tyX6 tyX6_ok nmX6 k2 rfl (by decide) 1 (by decide) rfl rfl rfl rfl (by decide +kernel) rfl rfl (List.mem_of_getElem? (i := 27) rfl) dX7_clearText_13 (fun M3 H locs e w => ?_)
  replace h := h M3 e
  refine lv_iload_n X.1 X.2.1 dX7_clearText_16 rfl (lv_at hl 0 rfl) ?_
  exact r_ireturn X hr hlk K w h dX7_clearText_17
theorem dX7_undo_0 : decode cX7_undo 0 = .ok (.aload_n 0, 1) := by decide +kernel
theorem dX7_undo_1 : decode cX7_undo 1 = .ok (.getfield 22, 3) := by decide +kernel
theorem dX7_undo_4 : decode cX7_undo 4 = .ok (.getfield 168, 3) := by decide +kernel
theorem dX7_undo_7 : decode cX7_undo 7 = .ok (.ifCond .ne 6, 3) := by decide +kernel
theorem dX7_undo_10 : decode cX7_undo 10 = .ok (.bipush (-5), 2) := by decide +kernel
theorem dX7_undo_12 : decode cX7_undo 12 = .ok (.ireturn, 1) := by decide +kernel
theorem dX7_undo_13 : decode cX7_undo 13 = .ok (.aload_n 0, 1) := by decide +kernel
theorem dX7_undo_14 : decode cX7_undo 14 = .ok (.getfield 22, 3) := by decide +kernel
theorem dX7_undo_17 : decode cX7_undo 17 = .ok (.aload_n 0, 1) := by decide +kernel
theorem dX7_undo_18 : decode cX7_undo 18 = .ok (.getfield 10, 3) := by decide +kernel
theorem dX7_undo_21 : decode cX7_undo 21 = .ok (.invokevirtual 169, 3) := by decide +kernel
theorem dX7_undo_24 : decode cX7_undo 24 = .ok (.aload_n 0, 1) := by decide +kernel
theorem dX7_undo_25 : decode cX7_undo 25 = .ok (.getfield 22, 3) := by decide +kernel
theorem dX7_undo_28 : decode cX7_undo 28 = .ok (.getfield 168, 3) := by decide +kernel
theorem dX7_undo_31 : decode cX7_undo 31 = .ok (.ireturn, 1) := by decide +kernel
set_option maxRecDepth 20000 in
theorem ggX7_undo_X2_moveLatestTo : GoodIn wsX7_undo wsX2_moveLatestTo := goodIn_r _ [7, 8, 9, 10, 11, 6, 12, 13, 14, 15, 16, 17, 18, 19, 20, 21, 22, 23, 24, 25, 26, 27, 28, 29, 30, 31, 32, 33, 34, 35, 36, 37, 38, 39, 40, 41, 42, 43, 44, 45, 46, 47, 48, 49, 50, 51, 52, 53, 54, 55, 56, 64, 65, 66, 67, 68, 69, 70, 71, 72, 73, 74, 75, 76, 77, 78, 79, 80, 81, 82, 83] (by decide +kernel) (by decide +kernel)
set_option maxRecDepth 20000 in
theorem gX7_undo_X2_moveLatestTo : GoodIn wsX7_undo (wsV RX7 169 RX2 yX2_moveLatestTo wsX2_moveLatestTo) := goodIn_app (goodIn_of _ (by decide +kernel)) ggX7_undo_X2_moveLatestTo
theorem iX7_undo_2 : ∀ w ∈ u_ws RX2 TX2 2, w ∈ wsX7_undo := fun w h => List.mem_cons_of_mem _ (List.mem_append_left _ (List.mem_append_left _ (List.mem_append_left _ (List.mem_append_right _ (h)))))
theorem iX7_undo_7 : ∀ w ∈ u_ws RX7 TX7 7, w ∈ wsX7_undo := fun w h => List.mem_cons_of_mem _ (List.mem_append_left _ (List.mem_append_left _ (List.mem_append_left _ (List.mem_append_left _ (List.mem_append_right _ (h))))))
set_option maxHeartbeats 4000000 in
set_option maxRecDepth 100000 in
theorem c_X7_undo {E : EE} {l : Launch} {g : GG} {ad : Nat → Nat} (hg : gwf g) {o0 : Nat} {M : Mm} {Q : Int → Mm → Prop} (k_o0 : gk g o0 = 7) (h : p_X7_undo g o0 M Q) : Ct E l yX7_undo wsX7_undo rmX7_undo g ad [.ref (ad o0)] M (QI E g ad Q) := by
  refine ent (cc := cX7_undo) (maxL := 1) (ret := (some .int)) (own := RX7) (by decide +kernel) rfl rfl (Nat.le_of_ble_eq_true rfl) ?_
  intro p e s m below meth c ls X hr hlk K w hl
  have hl : lv_has ls 1 [(0, .ref (ad o0))] := hl
  unfold p_X7_undo at h
  refine lv_aload_n X.1 X.2.1 dX7_undo_0 rfl (lv_at hl 0 rfl) ?_
  refine r_getr (N := 7) (T := TX7) X K w iX7_undo_7 k_o0 rfl (by decide) 2 (by decide) rfl rfl (List.mem_of_getElem? (i := 1) rfl) dX7_undo_1 ?_
  have k1 : gk g (o0 + 37) = 2 := gch hg k_o0 (by decide) 2 (by decide) rfl rfl
  refine r_getiN (N := 2) (T := TX2) (kz := 1) X K w iX7_undo_2 k1 rfl (by decide) 1 (by decide) rfl rfl rfl (List.mem_of_getElem? (i := 25) rfl) dX7_undo_4 ?_
  obtain ⟨i0, h1, h2⟩ := h
  refine r_if_ne (tgt := 13) X i0 dX7_undo_7 (by decide) (fun cc => ?_) (fun cc => ?_)
  · have h := h1 cc
    refine lv_aload_n X.1 X.2.1 dX7_undo_13 rfl (lv_at hl 0 rfl) ?_
    refine r_getr (N := 7) (T := TX7) X K w iX7_undo_7 k_o0 rfl (by decide) 2 (by decide) rfl rfl (List.mem_of_getElem? (i := 1) rfl) dX7_undo_14 ?_
    have k2 : gk g (o0 + 37) = 2 := gch hg k_o0 (by decide) 2 (by decide) rfl rfl
    refine lv_aload_n X.1 X.2.1 dX7_undo_17 rfl (lv_at hl 0 rfl) ?_
    refine r_getr (N := 7) (T := TX7) X K w iX7_undo_7 k_o0 rfl (by decide) 0 (by decide) rfl rfl (List.mem_of_getElem? (i := 2) rfl) dX7_undo_18 ?_
    have k3 : gk g (o0 + 1) = 5 := gch hg k_o0 (by decide) 0 (by decide) rfl rfl
    refine q_v (x_V (As := [.ref (ad (o0 + 1))]) (rest := []) X K w (c_X2_moveLatestTo hg k2 k3 h) (cwV 1 X.2.2.2.2 gX7_undo_X2_moveLatestTo rfl rfl rfl (by decide +kernel) ⟨Nat.le_of_ble_eq_true rfl, Nat.le_of_ble_eq_true rfl⟩) k2 (by decide) rfl rfl hl rfl (Nat.le_of_ble_eq_true rfl) dX7_undo_21 ⟨Nat.le_of_ble_eq_true rfl, Nat.le_of_ble_eq_true rfl⟩) w (fun M4 H locs h w => ?_)
    refine lv_aload_n X.1 X.2.1 dX7_undo_24 rfl (lv_at hl 0 rfl) ?_
    refine r_getr (N := 7) (T := TX7) X K w iX7_undo_7 k_o0 rfl (by decide) 2 (by decide) rfl rfl (List.mem_of_getElem? (i := 1) rfl) dX7_undo_25 ?_
    have k5 : gk g (o0 + 37) = 2 := gch hg k_o0 (by decide) 2 (by decide) rfl rfl
    refine r_getiN (N := 2) (T := TX2) (kz := 1) X K w iX7_undo_2 k5 rfl (by decide) 1 (by decide) rfl rfl rfl (List.mem_of_getElem? (i := 25) rfl) dX7_undo_28 ?_
    exact r_ireturn X hr hlk K w h dX7_undo_31
  · have h := h2 cc
    refine r_bipush X dX7_undo_10 (by decide +kernel) ?_
    exact r_ireturn X hr hlk K w h dX7_undo_12
theorem dX7_keep_0 : decode cX7_keep 0 = .ok (.aload_n 0, 1) := by decide +kernel
theorem dX7_keep_1 : decode cX7_keep 1 = .ok (.getfield 16, 3) := by decide +kernel
theorem dX7_keep_4 : decode cX7_keep 4 = .ok (.aload_n 0, 1) := by decide +kernel
theorem dX7_keep_5 : decode cX7_keep 5 = .ok (.getfield 10, 3) := by decide +kernel
theorem dX7_keep_8 : decode cX7_keep 8 = .ok (.invokevirtual 172, 3) := by decide +kernel
theorem dX7_keep_11 : decode cX7_keep 11 = .ok (.aload_n 0, 1) := by decide +kernel
theorem dX7_keep_12 : decode cX7_keep 12 = .ok (.iconst 1, 1) := by decide +kernel
theorem dX7_keep_13 : decode cX7_keep 13 = .ok (.putfield 47, 3) := by decide +kernel
theorem dX7_keep_16 : decode cX7_keep 16 = .ok (.aload_n 0, 1) := by decide +kernel
theorem dX7_keep_17 : decode cX7_keep 17 = .ok (.getfield 10, 3) := by decide +kernel
theorem dX7_keep_20 : decode cX7_keep 20 = .ok (.getfield 91, 3) := by decide +kernel
theorem dX7_keep_23 : decode cX7_keep 23 = .ok (.getfield 111, 3) := by decide +kernel
theorem dX7_keep_26 : decode cX7_keep 26 = .ok (.ireturn, 1) := by decide +kernel
set_option maxRecDepth 20000 in
theorem ggX7_keep_X5_copyFrom : GoodIn wsX7_keep wsX5_copyFrom := goodIn_r _ [8, 9, 10, 11, 12, 13, 14, 15, 16, 17, 18, 19, 20, 21, 22, 23, 24, 25, 26, 27, 28, 29, 30, 31, 32, 33, 34, 35, 36, 37, 38, 39, 40, 41, 42, 43, 44, 45, 46, 54, 55, 56, 57, 58, 59, 60, 61, 62, 63, 64, 71, 65, 66, 67, 68, 69, 70] (by decide +kernel) (by decide +kernel)
set_option maxRecDepth 20000 in
theorem gX7_keep_X5_copyFrom : GoodIn wsX7_keep (wsV RX7 172 RX5 yX5_copyFrom wsX5_copyFrom) := goodIn_app (goodIn_of _ (by decide +kernel)) ggX7_keep_X5_copyFrom
theorem iX7_keep_0 : ∀ w ∈ u_ws RX0 TX0 6, w ∈ wsX7_keep := fun w h => List.mem_cons_of_mem _ (List.mem_append_left _ (List.mem_append_right _ (h)))
theorem iX7_keep_5 : ∀ w ∈ u_ws RX5 TX5 11, w ∈ wsX7_keep := fun w h => List.mem_cons_of_mem _ (List.mem_append_left _ (List.mem_append_left _ (List.mem_append_right _ (h))))
theorem iX7_keep_7 : ∀ w ∈ u_ws RX7 TX7 7, w ∈ wsX7_keep := fun w h => List.mem_cons_of_mem _ (List.mem_append_left _ (List.mem_append_left _ (List.mem_append_left _ (List.mem_append_right _ (h)))))
set_option maxHeartbeats 4000000 in
set_option maxRecDepth 100000 in
theorem c_X7_keep {E : EE} {l : Launch} {g : GG} {ad : Nat → Nat} (hg : gwf g) {o0 : Nat} {M : Mm} {Q : Int → Mm → Prop} (k_o0 : gk g o0 = 7) (h : p_X7_keep g o0 M Q) : Ct E l yX7_keep wsX7_keep rmX7_keep g ad [.ref (ad o0)] M (QI E g ad Q) := by
  refine ent (cc := cX7_keep) (maxL := 1) (ret := (some .int)) (own := RX7) (by decide +kernel) rfl rfl (Nat.le_of_ble_eq_true rfl) ?_
  intro p e s m below meth c ls X hr hlk K w hl
  have hl : lv_has ls 1 [(0, .ref (ad o0))] := hl
  unfold p_X7_keep at h
  refine lv_aload_n X.1 X.2.1 dX7_keep_0 rfl (lv_at hl 0 rfl) ?_
  refine r_getr (N := 7) (T := TX7) X K w iX7_keep_7 k_o0 rfl (by decide) 1 (by decide) rfl rfl (List.mem_of_getElem? (i := 1) rfl) dX7_keep_1 ?_
  have k1 : gk g (o0 + 19) = 5 := gch hg k_o0 (by decide) 1 (by decide) rfl rfl
  refine lv_aload_n X.1 X.2.1 dX7_keep_4 rfl (lv_at hl 0 rfl) ?_
  refine r_getr (N := 7) (T := TX7) X K w iX7_keep_7 k_o0 rfl (by decide) 0 (by decide) rfl rfl (List.mem_of_getElem? (i := 2) rfl) dX7_keep_5 ?_
  have k2 : gk g (o0 + 1) = 5 := gch hg k_o0 (by decide) 0 (by decide) rfl rfl
  refine q_v (x_V (As := [.ref (ad (o0 + 1))]) (rest := []) X K w (c_X5_copyFrom hg k1 k2 h) (cwV 1 X.2.2.2.2 gX7_keep_X5_copyFrom rfl rfl rfl (by decide +kernel) ⟨Nat.le_of_ble_eq_true rfl, Nat.le_of_ble_eq_true rfl⟩) k1 (by decide) rfl rfl hl rfl (Nat.le_of_ble_eq_true rfl) dX7_keep_8 ⟨Nat.le_of_ble_eq_true rfl, Nat.le_of_ble_eq_true rfl⟩) w (fun M3 H locs h w => ?_)
  refine lv_aload_n X.1 X.2.1 dX7_keep_11 rfl (lv_at hl 0 rfl) ?_
  refine r_iconst X dX7_keep_12 ?_
  refine r_puti (N := 7) (T := TX7) (kz := 6) (ty := .boolean) X K w iX7_keep_7 tyX7 tyX7_ok nmX7 k_o0 rfl (by decide) 6 (by decide) rfl rfl rfl rfl (by decide +kernel) (by decide +kernel) (by decide +kernel) (List.mem_of_getElem? (i := 3) rfl) dX7_keep_13 (fun M4 H locs e w => ?_)
  replace h := h M4 e
  refine lv_aload_n X.1 X.2.1 dX7_keep_16 rfl (lv_at hl 0 rfl) ?_
  refine r_getr (N := 7) (T := TX7) X K w iX7_keep_7 k_o0 rfl (by decide) 0 (by decide) rfl rfl (List.mem_of_getElem? (i := 2) rfl) dX7_keep_17 ?_
  have k5 : gk g (o0 + 1) = 5 := gch hg k_o0 (by decide) 0 (by decide) rfl rfl
  refine r_getrN (N := 11) (T := TX5) X K w iX7_keep_5 k5 rfl (by decide) 4 (by decide) rfl rfl (List.mem_of_getElem? (i := 16) rfl) dX7_keep_20 ?_
  have k6 : gk g ((o0 + 1) + 9) = 0 := gch hg k5 (by decide) 4 (by decide) rfl rfl
  refine r_getiN (N := 6) (T := TX0) (kz := 5) X K w iX7_keep_0 k6 rfl (by decide) 5 (by decide) rfl rfl rfl (List.mem_of_getElem? (i := 8) rfl) dX7_keep_23 ?_
  exact r_ireturn X hr hlk K w h dX7_keep_26
theorem dX7_restore_0 : decode cX7_restore 0 = .ok (.aload_n 0, 1) := by decide +kernel
theorem dX7_restore_1 : decode cX7_restore 1 = .ok (.getfield 47, 3) := by decide +kernel
theorem dX7_restore_4 : decode cX7_restore 4 = .ok (.ifCond .ne 6, 3) := by decide +kernel
theorem dX7_restore_7 : decode cX7_restore 7 = .ok (.bipush (-5), 2) := by decide +kernel
theorem dX7_restore_9 : decode cX7_restore 9 = .ok (.ireturn, 1) := by decide +kernel
theorem dX7_restore_10 : decode cX7_restore 10 = .ok (.aload_n 0, 1) := by decide +kernel
theorem dX7_restore_11 : decode cX7_restore 11 = .ok (.getfield 22, 3) := by decide +kernel
theorem dX7_restore_14 : decode cX7_restore 14 = .ok (.aload_n 0, 1) := by decide +kernel
theorem dX7_restore_15 : decode cX7_restore 15 = .ok (.getfield 10, 3) := by decide +kernel
theorem dX7_restore_18 : decode cX7_restore 18 = .ok (.invokevirtual 68, 3) := by decide +kernel
theorem dX7_restore_21 : decode cX7_restore 21 = .ok (.aload_n 0, 1) := by decide +kernel
theorem dX7_restore_22 : decode cX7_restore 22 = .ok (.getfield 10, 3) := by decide +kernel
theorem dX7_restore_25 : decode cX7_restore 25 = .ok (.aload_n 0, 1) := by decide +kernel
theorem dX7_restore_26 : decode cX7_restore 26 = .ok (.getfield 16, 3) := by decide +kernel
theorem dX7_restore_29 : decode cX7_restore 29 = .ok (.invokevirtual 172, 3) := by decide +kernel
theorem dX7_restore_32 : decode cX7_restore 32 = .ok (.aload_n 0, 1) := by decide +kernel
theorem dX7_restore_33 : decode cX7_restore 33 = .ok (.getfield 10, 3) := by decide +kernel
theorem dX7_restore_36 : decode cX7_restore 36 = .ok (.getfield 91, 3) := by decide +kernel
theorem dX7_restore_39 : decode cX7_restore 39 = .ok (.getfield 111, 3) := by decide +kernel
theorem dX7_restore_42 : decode cX7_restore 42 = .ok (.ireturn, 1) := by decide +kernel
set_option maxRecDepth 20000 in
theorem ggX7_restore_X2_record : GoodIn wsX7_restore wsX2_record := goodIn_r _ [9, 10, 11, 12, 13, 14, 8, 15, 16, 17, 18, 19, 20, 21, 22, 23, 24, 25, 26, 27, 28, 29, 30, 31, 32, 33, 34, 35, 36, 37, 38, 39, 40, 41, 42, 43, 44, 45, 46, 47, 48, 49, 50, 51, 52, 53, 54, 55, 56, 57, 58, 59, 60, 61, 62, 88, 89, 71, 72, 73, 74, 75, 76, 77, 78, 79, 80, 81, 90, 82, 83, 84, 85, 86, 87] (by decide +kernel) (by decide +kernel)
set_option maxRecDepth 20000 in
theorem gX7_restore_X2_record : GoodIn wsX7_restore (wsV RX7 68 RX2 yX2_record wsX2_record) := goodIn_app (goodIn_of _ (by decide +kernel)) ggX7_restore_X2_record
set_option maxRecDepth 20000 in
theorem ggX7_restore_X5_copyFrom : GoodIn wsX7_restore wsX5_copyFrom := goodIn_r _ [24, 25, 26, 27, 28, 29, 30, 31, 32, 33, 34, 35, 36, 37, 38, 39, 40, 41, 42, 43, 44, 45, 46, 47, 48, 49, 50, 51, 52, 53, 54, 55, 56, 57, 58, 59, 60, 61, 62, 71, 72, 73, 74, 75, 76, 77, 78, 79, 80, 81, 90, 82, 83, 84, 85, 86, 87] (by decide +kernel) (by decide +kernel)
set_option maxRecDepth 20000 in
theorem gX7_restore_X5_copyFrom : GoodIn wsX7_restore (wsV RX7 172 RX5 yX5_copyFrom wsX5_copyFrom) := goodIn_app (goodIn_of _ (by decide +kernel)) ggX7_restore_X5_copyFrom
theorem iX7_restore_0 : ∀ w ∈ u_ws RX0 TX0 6, w ∈ wsX7_restore := fun w h => List.mem_cons_of_mem _ (List.mem_append_left _ (List.mem_append_left _ (List.mem_append_right _ (h))))
theorem iX7_restore_5 : ∀ w ∈ u_ws RX5 TX5 11, w ∈ wsX7_restore := fun w h => List.mem_cons_of_mem _ (List.mem_append_left _ (List.mem_append_left _ (List.mem_append_left _ (List.mem_append_right _ (h)))))
theorem iX7_restore_7 : ∀ w ∈ u_ws RX7 TX7 7, w ∈ wsX7_restore := fun w h => List.mem_cons_of_mem _ (List.mem_append_left _ (List.mem_append_left _ (List.mem_append_left _ (List.mem_append_left _ (List.mem_append_right _ (h))))))
set_option maxHeartbeats 4000000 in
set_option maxRecDepth 100000 in
theorem c_X7_restore {E : EE} {l : Launch} {g : GG} {ad : Nat → Nat} (hg : gwf g) {o0 : Nat} {M : Mm} {Q : Int → Mm → Prop} (k_o0 : gk g o0 = 7) (h : p_X7_restore g o0 M Q) : Ct E l yX7_restore wsX7_restore rmX7_restore g ad [.ref (ad o0)] M (QI E g ad Q) := by
  refine ent (cc := cX7_restore) (maxL := 1) (ret := (some .int)) (own := RX7) (by decide +kernel) rfl rfl (Nat.le_of_ble_eq_true rfl) ?_
  intro p e s m below meth c ls X hr hlk K w hl
  have hl : lv_has ls 1 [(0, .ref (ad o0))] := hl
  unfold p_X7_restore at h
  refine lv_aload_n X.1 X.2.1 dX7_restore_0 rfl (lv_at hl 0 rfl) ?_
  refine r_geti (N := 7) (T := TX7) (kz := 6) X K w iX7_restore_7 k_o0 rfl (by decide) 6 (by decide) rfl rfl rfl (List.mem_of_getElem? (i := 1) rfl) dX7_restore_1 ?_
  obtain ⟨i0, h1, h2⟩ := h
  refine r_if_ne (tgt := 10) X i0 dX7_restore_4 (by decide) (fun cc => ?_) (fun cc => ?_)
  · have h := h1 cc
    refine lv_aload_n X.1 X.2.1 dX7_restore_10 rfl (lv_at hl 0 rfl) ?_
    refine r_getr (N := 7) (T := TX7) X K w iX7_restore_7 k_o0 rfl (by decide) 2 (by decide) rfl rfl (List.mem_of_getElem? (i := 2) rfl) dX7_restore_11 ?_
    have k1 : gk g (o0 + 37) = 2 := gch hg k_o0 (by decide) 2 (by decide) rfl rfl
    refine lv_aload_n X.1 X.2.1 dX7_restore_14 rfl (lv_at hl 0 rfl) ?_
    refine r_getr (N := 7) (T := TX7) X K w iX7_restore_7 k_o0 rfl (by decide) 0 (by decide) rfl rfl (List.mem_of_getElem? (i := 3) rfl) dX7_restore_15 ?_
    have k2 : gk g (o0 + 1) = 5 := gch hg k_o0 (by decide) 0 (by decide) rfl rfl
    refine q_v (x_V (As := [.ref (ad (o0 + 1))]) (rest := []) X K w (c_X2_record hg k1 k2 h) (cwV 1 X.2.2.2.2 gX7_restore_X2_record rfl rfl rfl (by decide +kernel) ⟨Nat.le_of_ble_eq_true rfl, Nat.le_of_ble_eq_true rfl⟩) k1 (by decide) rfl rfl hl rfl (Nat.le_of_ble_eq_true rfl) dX7_restore_18 ⟨Nat.le_of_ble_eq_true rfl, Nat.le_of_ble_eq_true rfl⟩) w (fun M3 H locs h w => ?_)
    refine lv_aload_n X.1 X.2.1 dX7_restore_21 rfl (lv_at hl 0 rfl) ?_
    refine r_getr (N := 7) (T := TX7) X K w iX7_restore_7 k_o0 rfl (by decide) 0 (by decide) rfl rfl (List.mem_of_getElem? (i := 3) rfl) dX7_restore_22 ?_
    have k4 : gk g (o0 + 1) = 5 := gch hg k_o0 (by decide) 0 (by decide) rfl rfl
    refine lv_aload_n X.1 X.2.1 dX7_restore_25 rfl (lv_at hl 0 rfl) ?_
    refine r_getr (N := 7) (T := TX7) X K w iX7_restore_7 k_o0 rfl (by decide) 1 (by decide) rfl rfl (List.mem_of_getElem? (i := 4) rfl) dX7_restore_26 ?_
    have k5 : gk g (o0 + 19) = 5 := gch hg k_o0 (by decide) 1 (by decide) rfl rfl
    refine q_v (x_V (As := [.ref (ad (o0 + 19))]) (rest := []) X K w (c_X5_copyFrom hg k4 k5 h) (cwV 1 X.2.2.2.2 gX7_restore_X5_copyFrom rfl rfl rfl (by decide +kernel) ⟨Nat.le_of_ble_eq_true rfl, Nat.le_of_ble_eq_true rfl⟩) k4 (by decide) rfl rfl hl rfl (Nat.le_of_ble_eq_true rfl) dX7_restore_29 ⟨Nat.le_of_ble_eq_true rfl, Nat.le_of_ble_eq_true rfl⟩) w (fun M6 H locs h w => ?_)
    refine lv_aload_n X.1 X.2.1 dX7_restore_32 rfl (lv_at hl 0 rfl) ?_
    refine r_getr (N := 7) (T := TX7) X K w iX7_restore_7 k_o0 rfl (by decide) 0 (by decide) rfl rfl (List.mem_of_getElem? (i := 3) rfl) dX7_restore_33 ?_
    have k7 : gk g (o0 + 1) = 5 := gch hg k_o0 (by decide) 0 (by decide) rfl rfl
    refine r_getrN (N := 11) (T := TX5) X K w iX7_restore_5 k7 rfl (by decide) 4 (by decide) rfl rfl (List.mem_of_getElem? (i := 16) rfl) dX7_restore_36 ?_
    have k8 : gk g ((o0 + 1) + 9) = 0 := gch hg k7 (by decide) 4 (by decide) rfl rfl
    refine r_getiN (N := 6) (T := TX0) (kz := 5) X K w iX7_restore_0 k8 rfl (by decide) 5 (by decide) rfl rfl rfl (List.mem_of_getElem? (i := 8) rfl) dX7_restore_39 ?_
    exact r_ireturn X hr hlk K w h dX7_restore_42
  · have h := h2 cc
    refine r_bipush X dX7_restore_7 (by decide +kernel) ?_
    exact r_ireturn X hr hlk K w h dX7_restore_9
