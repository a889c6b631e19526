/-! contracts of the methods, by gen.py: X4_copyFrom, X0_copyFrom, X4_get, X0_endOf, X0_has, X4_put, X0_append, X0_order, X4_swap, X0_swap, X0_moveToItsPlace, X0_putInOrder, X0_removeAt, X0_removeScene, X7_isWithin, X0_canMove, X4_increase, X0_moveScene, X0_timesIn, X0_sizeOfScene, X0_sizeOfSound, X0_firstTick, X0_greatestEnd, X7_isBelow -/
theorem dX4_copyFrom_0 : decode cX4_copyFrom 0 = .ok (.aload_n 0, 1) := by decide +kernel
theorem dX4_copyFrom_1 : decode cX4_copyFrom 1 = .ok (.getfield 13, 3) := by decide +kernel
theorem dX4_copyFrom_4 : decode cX4_copyFrom 4 = .ok (.arraylength, 1) := by decide +kernel
theorem dX4_copyFrom_5 : decode cX4_copyFrom 5 = .ok (.aload_n 1, 1) := by decide +kernel
theorem dX4_copyFrom_6 : decode cX4_copyFrom 6 = .ok (.getfield 13, 3) := by decide +kernel
theorem dX4_copyFrom_9 : decode cX4_copyFrom 9 = .ok (.arraylength, 1) := by decide +kernel
theorem dX4_copyFrom_10 : decode cX4_copyFrom 10 = .ok (.invokestatic 27, 3) := by decide +kernel
theorem dX4_copyFrom_13 : decode cX4_copyFrom 13 = .ok (.istore_n 2, 1) := by decide +kernel
theorem dX4_copyFrom_14 : decode cX4_copyFrom 14 = .ok (.aload_n 1, 1) := by decide +kernel
theorem dX4_copyFrom_15 : decode cX4_copyFrom 15 = .ok (.getfield 13, 3) := by decide +kernel
theorem dX4_copyFrom_18 : decode cX4_copyFrom 18 = .ok (.iconst 0, 1) := by decide +kernel
theorem dX4_copyFrom_19 : decode cX4_copyFrom 19 = .ok (.aload_n 0, 1) := by decide +kernel
theorem dX4_copyFrom_20 : decode cX4_copyFrom 20 = .ok (.getfield 13, 3) := by decide +kernel
theorem dX4_copyFrom_23 : decode cX4_copyFrom 23 = .ok (.iconst 0, 1) := by decide +kernel
theorem dX4_copyFrom_24 : decode cX4_copyFrom 24 = .ok (.iload_n 2, 1) := by decide +kernel
theorem dX4_copyFrom_25 : decode cX4_copyFrom 25 = .ok (.invokestatic 30, 3) := by decide +kernel
theorem dX4_copyFrom_28 : decode cX4_copyFrom 28 = .ok (.return_, 1) := by decide +kernel
theorem iX4_copyFrom_4 : ∀ w ∈ u_ws RX4 TX4 1, w ∈ wsX4_copyFrom := fun w h => List.mem_cons_of_mem _ (List.mem_append_right _ (h))
set_option maxHeartbeats 4000000 in
set_option maxRecDepth 100000 in
theorem c_X4_copyFrom {E : EE} {l : Launch} {g : GG} {ad : Nat → Nat} (hg : gwf g) {o0 : Nat} {o1 : Nat} {M : Mm} {Q : Mm → Prop} (k_o0 : gk g o0 = 4) (k_o1 : gk g o1 = 4) (h : p_X4_copyFrom g o0 o1 M Q) : Ct E l yX4_copyFrom wsX4_copyFrom rmX4_copyFrom g ad [.ref (ad o0), .ref (ad o1)] M (QV E g ad Q) := by
  refine ent (cc := cX4_copyFrom) (maxL := 3) (ret := none) (own := RX4) (by decide +kernel) rfl rfl (Nat.le_of_ble_eq_true rfl) ?_
  intro p e s m below meth c ls X hr hlk K w hl
  have hl : lv_has ls 3 [(0, .ref (ad o0)), (1, .ref (ad o1))] := hl
  unfold p_X4_copyFrom at h
  refine lv_aload_n X.1 X.2.1 dX4_copyFrom_0 rfl (lv_at hl 0 rfl) ?_
  refine r_getr (N := 1) (T := TX4) X K w iX4_copyFrom_4 k_o0 rfl (by decide) 0 (by decide) rfl rfl (List.mem_of_getElem? (i := 1) rfl) dX4_copyFrom_1 ?_
  have k1 : gk g (o0 + 1) = 9 := gch hg k_o0 (by decide) 0 (by decide) rfl rfl
  refine r_alen X K w k1 dX4_copyFrom_4 ?_
  refine lv_aload_n X.1 X.2.1 dX4_copyFrom_5 rfl (lv_at hl 1 rfl) ?_
  refine r_getr (N := 1) (T := TX4) X K w iX4_copyFrom_4 k_o1 rfl (by decide) 0 (by decide) rfl rfl (List.mem_of_getElem? (i := 1) rfl) dX4_copyFrom_6 ?_
  have k2 : gk g (o1 + 1) = 9 := gch hg k_o1 (by decide) 0 (by decide) rfl rfl
  refine r_alen X K w k2 dX4_copyFrom_9 ?_
  refine r_min X hl (inR_n (hg.2 _)) (inR_n (hg.2 _)) (List.mem_of_getElem? (i := 2) rfl) (List.mem_of_getElem? (i := 3) rfl) (List.mem_of_getElem? (i := 4) rfl) (List.mem_of_getElem? (i := 5) rfl) (by decide) (Nat.le_of_ble_eq_true rfl) ⟨by decide, by decide⟩ dX4_copyFrom_10 ?_
  refine lv_istore_n (lv' := [(2, cI (min ((gl g (o0 + 1) : Nat) : Int) ((gl g (o1 + 1) : Nat) : Int))), (0, .ref (ad o0)), (1, .ref (ad o1))]) X.1 X.2.1 dX4_copyFrom_13 rfl hl (by decide) rfl (fun ls hl => ?_)
  refine lv_aload_n X.1 X.2.1 dX4_copyFrom_14 rfl (lv_at hl 2 rfl) ?_
  refine r_getr (N := 1) (T := TX4) X K w iX4_copyFrom_4 k_o1 rfl (by decide) 0 (by decide) rfl rfl (List.mem_of_getElem? (i := 1) rfl) dX4_copyFrom_15 ?_
  have k3 : gk g (o1 + 1) = 9 := gch hg k_o1 (by decide) 0 (by decide) rfl rfl
  refine r_iconst X dX4_copyFrom_18 ?_
  refine lv_aload_n X.1 X.2.1 dX4_copyFrom_19 rfl (lv_at hl 1 rfl) ?_
  refine r_getr (N := 1) (T := TX4) X K w iX4_copyFrom_4 k_o0 rfl (by decide) 0 (by decide) rfl rfl (List.mem_of_getElem? (i := 1) rfl) dX4_copyFrom_20 ?_
  have k4 : gk g (o0 + 1) = 9 := gch hg k_o0 (by decide) 0 (by decide) rfl rfl
  refine r_iconst X dX4_copyFrom_23 ?_
  refine lv_iload_n X.1 X.2.1 dX4_copyFrom_24 rfl (lv_at hl 0 rfl) ?_
  obtain ⟨b0, b1, b2, h⟩ := h
  refine r_acpy X K w hg hl k3 k4 b0 b1 b2 (List.mem_of_getElem? (i := 6) rfl) (List.mem_of_getElem? (i := 7) rfl) (List.mem_of_getElem? (i := 8) rfl) (List.mem_of_getElem? (i := 9) rfl) (by decide) (Nat.le_of_ble_eq_true rfl) dX4_copyFrom_25 (fun M5 H locs e w => ?_)
  replace h := h M5 e
  exact r_return X hr hlk K w h dX4_copyFrom_28
theorem dX0_copyFrom_0 : decode cX0_copyFrom 0 = .ok (.aload_n 0, 1) := by decide +kernel
theorem dX0_copyFrom_1 : decode cX0_copyFrom 1 = .ok (.getfield 23, 3) := by decide +kernel
theorem dX0_copyFrom_4 : decode cX0_copyFrom 4 = .ok (.aload_n 1, 1) := by decide +kernel
theorem dX0_copyFrom_5 : decode cX0_copyFrom 5 = .ok (.getfield 23, 3) := by decide +kernel
theorem dX0_copyFrom_8 : decode cX0_copyFrom 8 = .ok (.invokevirtual 36, 3) := by decide +kernel
theorem dX0_copyFrom_11 : decode cX0_copyFrom 11 = .ok (.aload_n 0, 1) := by decide +kernel
theorem dX0_copyFrom_12 : decode cX0_copyFrom 12 = .ok (.getfield 27, 3) := by decide +kernel
theorem dX0_copyFrom_15 : decode cX0_copyFrom 15 = .ok (.aload_n 1, 1) := by decide +kernel
theorem dX0_copyFrom_16 : decode cX0_copyFrom 16 = .ok (.getfield 27, 3) := by decide +kernel
theorem dX0_copyFrom_19 : decode cX0_copyFrom 19 = .ok (.invokevirtual 36, 3) := by decide +kernel
theorem dX0_copyFrom_22 : decode cX0_copyFrom 22 = .ok (.aload_n 0, 1) := by decide +kernel
theorem dX0_copyFrom_23 : decode cX0_copyFrom 23 = .ok (.getfield 30, 3) := by decide +kernel
theorem dX0_copyFrom_26 : decode cX0_copyFrom 26 = .ok (.aload_n 1, 1) := by decide +kernel
theorem dX0_copyFrom_27 : decode cX0_copyFrom 27 = .ok (.getfield 30, 3) := by decide +kernel
theorem dX0_copyFrom_30 : decode cX0_copyFrom 30 = .ok (.invokevirtual 36, 3) := by decide +kernel
theorem dX0_copyFrom_33 : decode cX0_copyFrom 33 = .ok (.aload_n 0, 1) := by decide +kernel
theorem dX0_copyFrom_34 : decode cX0_copyFrom 34 = .ok (.getfield 33, 3) := by decide +kernel
theorem dX0_copyFrom_37 : decode cX0_copyFrom 37 = .ok (.aload_n 1, 1) := by decide +kernel
theorem dX0_copyFrom_38 : decode cX0_copyFrom 38 = .ok (.getfield 33, 3) := by decide +kernel
theorem dX0_copyFrom_41 : decode cX0_copyFrom 41 = .ok (.invokevirtual 36, 3) := by decide +kernel
theorem dX0_copyFrom_44 : decode cX0_copyFrom 44 = .ok (.aload_n 0, 1) := by decide +kernel
theorem dX0_copyFrom_45 : decode cX0_copyFrom 45 = .ok (.aload_n 1, 1) := by decide +kernel
theorem dX0_copyFrom_46 : decode cX0_copyFrom 46 = .ok (.getfield 9, 3) := by decide +kernel
theorem dX0_copyFrom_49 : decode cX0_copyFrom 49 = .ok (.aload_n 0, 1) := by decide +kernel
theorem dX0_copyFrom_50 : decode cX0_copyFrom 50 = .ok (.getfield 15, 3) := by decide +kernel
theorem dX0_copyFrom_53 : decode cX0_copyFrom 53 = .ok (.invokestatic 40, 3) := by decide +kernel
theorem dX0_copyFrom_56 : decode cX0_copyFrom 56 = .ok (.putfield 9, 3) := by decide +kernel
theorem dX0_copyFrom_59 : decode cX0_copyFrom 59 = .ok (.return_, 1) := by decide +kernel
set_option maxRecDepth 20000 in
theorem ggX0_copyFrom_X4_copyFrom : GoodIn wsX0_copyFrom wsX4_copyFrom := goodIn_r _ [15, 16, 17, 8, 9, 10, 18, 19, 20, 21, 28] (by decide +kernel) (by decide +kernel)
set_option maxRecDepth 20000 in
theorem gX0_copyFrom_X4_copyFrom : GoodIn wsX0_copyFrom (wsV RX0 36 RX4 yX4_copyFrom wsX4_copyFrom) := goodIn_app (goodIn_of _ (by decide +kernel)) ggX0_copyFrom_X4_copyFrom
theorem iX0_copyFrom_0 : ∀ w ∈ u_ws RX0 TX0 6, w ∈ wsX0_copyFrom := fun w h => List.mem_cons_of_mem _ (List.mem_append_left _ (List.mem_append_right _ (h)))
set_option maxHeartbeats 4000000 in
set_option maxRecDepth 100000 in
theorem c_X0_copyFrom {E : EE} {l : Launch} {g : GG} {ad : Nat → Nat} (hg : gwf g) {o0 : Nat} {o1 : Nat} {M : Mm} {Q : Mm → Prop} (k_o0 : gk g o0 = 0) (k_o1 : gk g o1 = 0) (h : p_X0_copyFrom g o0 o1 M Q) : Ct E l yX0_copyFrom wsX0_copyFrom rmX0_copyFrom g ad [.ref (ad o0), .ref (ad o1)] M (QV E g ad Q) := by
  refine ent (cc := cX0_copyFrom) (maxL := 2) (ret := none) (own := RX0) (by decide +kernel) rfl rfl (Nat.le_of_ble_eq_true rfl) ?_
  intro p e s m below meth c ls X hr hlk K w hl
  have hl : lv_has ls 2 [(0, .ref (ad o0)), (1, .ref (ad o1))] := hl
  unfold p_X0_copyFrom at h
  refine lv_aload_n X.1 X.2.1 dX0_copyFrom_0 rfl (lv_at hl 0 rfl) ?_
  refine r_getr (N := 6) (T := TX0) X K w iX0_copyFrom_0 k_o0 rfl (by decide) 1 (by decide) rfl rfl (List.mem_of_getElem? (i := 1) rfl) dX0_copyFrom_1 ?_
  have k1 : gk g (o0 + 1) = 4 := gch hg k_o0 (by decide) 1 (by decide) rfl rfl
  refine lv_aload_n X.1 X.2.1 dX0_copyFrom_4 rfl (lv_at hl 1 rfl) ?_
  refine r_getr (N := 6) (T := TX0) X K w iX0_copyFrom_0 k_o1 rfl (by decide) 1 (by decide) rfl rfl (List.mem_of_getElem? (i := 1) rfl) dX0_copyFrom_5 ?_
  have k2 : gk g (o1 + 1) = 4 := gch hg k_o1 (by decide) 1 (by decide) rfl rfl
  refine q_v (x_V (As := [.ref (ad (o1 + 1))]) (rest := []) X K w (c_X4_copyFrom hg k1 k2 h) (cwV 1 X.2.2.2.2 gX0_copyFrom_X4_copyFrom rfl rfl rfl (by decide +kernel) ⟨Nat.le_of_ble_eq_true rfl, Nat.le_of_ble_eq_true rfl⟩) k1 (by decide) rfl rfl hl rfl (Nat.le_of_ble_eq_true rfl) dX0_copyFrom_8 ⟨Nat.le_of_ble_eq_true rfl, Nat.le_of_ble_eq_true rfl⟩) w (fun M3 H locs h w => ?_)
  refine lv_aload_n X.1 X.2.1 dX0_copyFrom_11 rfl (lv_at hl 0 rfl) ?_
  refine r_getr (N := 6) (T := TX0) X K w iX0_copyFrom_0 k_o0 rfl (by decide) 2 (by decide) rfl rfl (List.mem_of_getElem? (i := 2) rfl) dX0_copyFrom_12 ?_
  have k4 : gk g (o0 + 3) = 4 := gch hg k_o0 (by decide) 2 (by decide) rfl rfl
  refine lv_aload_n X.1 X.2.1 dX0_copyFrom_15 rfl (lv_at hl 1 rfl) ?_
  refine r_getr (N := 6) (T := TX0) X K w iX0_copyFrom_0 k_o1 rfl (by decide) 2 (by decide) rfl rfl (List.mem_of_getElem? (i := 2) rfl) dX0_copyFrom_16 ?_
  have k5 : gk g (o1 + 3) = 4 := gch hg k_o1 (by decide) 2 (by decide) rfl rfl
  refine q_v (x_V (As := [.ref (ad (o1 + 3))]) (rest := []) X K w (c_X4_copyFrom hg k4 k5 h) (cwV 1 X.2.2.2.2 gX0_copyFrom_X4_copyFrom rfl rfl rfl (by decide +kernel) ⟨Nat.le_of_ble_eq_true rfl, Nat.le_of_ble_eq_true rfl⟩) k4 (by decide) rfl rfl hl rfl (Nat.le_of_ble_eq_true rfl) dX0_copyFrom_19 ⟨Nat.le_of_ble_eq_true rfl, Nat.le_of_ble_eq_true rfl⟩) w (fun M6 H locs h w => ?_)
  refine lv_aload_n X.1 X.2.1 dX0_copyFrom_22 rfl (lv_at hl 0 rfl) ?_
  refine r_getr (N := 6) (T := TX0) X K w iX0_copyFrom_0 k_o0 rfl (by decide) 3 (by decide) rfl rfl (List.mem_of_getElem? (i := 3) rfl) dX0_copyFrom_23 ?_
  have k7 : gk g (o0 + 5) = 4 := gch hg k_o0 (by decide) 3 (by decide) rfl rfl
  refine lv_aload_n X.1 X.2.1 dX0_copyFrom_26 rfl (lv_at hl 1 rfl) ?_
  refine r_getr (N := 6) (T := TX0) X K w iX0_copyFrom_0 k_o1 rfl (by decide) 3 (by decide) rfl rfl (List.mem_of_getElem? (i := 3) rfl) dX0_copyFrom_27 ?_
  have k8 : gk g (o1 + 5) = 4 := gch hg k_o1 (by decide) 3 (by decide) rfl rfl
  refine q_v (x_V (As := [.ref (ad (o1 + 5))]) (rest := []) X K w (c_X4_copyFrom hg k7 k8 h) (cwV 1 X.2.2.2.2 gX0_copyFrom_X4_copyFrom rfl rfl rfl (by decide +kernel) ⟨Nat.le_of_ble_eq_true rfl, Nat.le_of_ble_eq_true rfl⟩) k7 (by decide) rfl rfl hl rfl (Nat.le_of_ble_eq_true rfl) dX0_copyFrom_30 ⟨Nat.le_of_ble_eq_true rfl, Nat.le_of_ble_eq_true rfl⟩) w (fun M9 H locs h w => ?_)
  refine lv_aload_n X.1 X.2.1 dX0_copyFrom_33 rfl (lv_at hl 0 rfl) ?_
  refine r_getr (N := 6) (T := TX0) X K w iX0_copyFrom_0 k_o0 rfl (by decide) 4 (by decide) rfl rfl (List.mem_of_getElem? (i := 4) rfl) dX0_copyFrom_34 ?_
  have k10 : gk g (o0 + 7) = 4 := gch hg k_o0 (by decide) 4 (by decide) rfl rfl
  refine lv_aload_n X.1 X.2.1 dX0_copyFrom_37 rfl (lv_at hl 1 rfl) ?_
  refine r_getr (N := 6) (T := TX0) X K w iX0_copyFrom_0 k_o1 rfl (by decide) 4 (by decide) rfl rfl (List.mem_of_getElem? (i := 4) rfl) dX0_copyFrom_38 ?_
  have k11 : gk g (o1 + 7) = 4 := gch hg k_o1 (by decide) 4 (by decide) rfl rfl
  refine q_v (x_V (As := [.ref (ad (o1 + 7))]) (rest := []) X K w (c_X4_copyFrom hg k10 k11 h) (cwV 1 X.2.2.2.2 gX0_copyFrom_X4_copyFrom rfl rfl rfl (by decide +kernel) ⟨Nat.le_of_ble_eq_true rfl, Nat.le_of_ble_eq_true rfl⟩) k10 (by decide) rfl rfl hl rfl (Nat.le_of_ble_eq_true rfl) dX0_copyFrom_41 ⟨Nat.le_of_ble_eq_true rfl, Nat.le_of_ble_eq_true rfl⟩) w (fun M12 H locs h w => ?_)
  refine lv_aload_n X.1 X.2.1 dX0_copyFrom_44 rfl (lv_at hl 0 rfl) ?_
  refine lv_aload_n X.1 X.2.1 dX0_copyFrom_45 rfl (lv_at hl 1 rfl) ?_
  refine r_geti (N := 6) (T := TX0) (kz := 5) X K w iX0_copyFrom_0 k_o1 rfl (by decide) 5 (by decide) rfl rfl rfl (List.mem_of_getElem? (i := 5) rfl) dX0_copyFrom_46 ?_
  refine lv_aload_n X.1 X.2.1 dX0_copyFrom_49 rfl (lv_at hl 0 rfl) ?_
  refine r_geti (N := 6) (T := TX0) (kz := 0) X K w iX0_copyFrom_0 k_o0 rfl (by decide) 0 (by decide) rfl rfl rfl (List.mem_of_getElem? (i := 6) rfl) dX0_copyFrom_50 ?_
  obtain ⟨i0, i1, h⟩ := h
  refine r_min X hl i0 i1 (List.mem_of_getElem? (i := 7) rfl) (List.mem_of_getElem? (i := 8) rfl) (List.mem_of_getElem? (i := 9) rfl) (List.mem_of_getElem? (i := 10) rfl) (by decide) (Nat.le_of_ble_eq_true rfl) ⟨by decide, by decide⟩ dX0_copyFrom_53 ?_
  refine r_puti (N := 6) (T := TX0) (kz := 5) (ty := .int) X K w iX0_copyFrom_0 tyX0 tyX0_ok nmX0 k_o0 rfl (by decide) 5 (by decide) rfl rfl rfl rfl (by decide +kernel) rfl rfl (List.mem_of_getElem? (i := 5) rfl) dX0_copyFrom_56 (fun M13 H locs e w => ?_)
  replace h := h M13 e
  exact r_return X hr hlk K w h dX0_copyFrom_59
theorem dX4_get_0 : decode cX4_get 0 = .ok (.iload_n 1, 1) := by decide +kernel
theorem dX4_get_1 : decode cX4_get 1 = .ok (.ifCond .lt 21, 3) := by decide +kernel
theorem dX4_get_4 : decode cX4_get 4 = .ok (.iload_n 1, 1) := by decide +kernel
theorem dX4_get_5 : decode cX4_get 5 = .ok (.aload_n 0, 1) := by decide +kernel
theorem dX4_get_6 : decode cX4_get 6 = .ok (.getfield 13, 3) := by decide +kernel
theorem dX4_get_9 : decode cX4_get 9 = .ok (.arraylength, 1) := by decide +kernel
theorem dX4_get_10 : decode cX4_get 10 = .ok (.if_icmp .ge 12, 3) := by decide +kernel
theorem dX4_get_13 : decode cX4_get 13 = .ok (.aload_n 0, 1) := by decide +kernel
theorem dX4_get_14 : decode cX4_get 14 = .ok (.getfield 13, 3) := by decide +kernel
theorem dX4_get_17 : decode cX4_get 17 = .ok (.iload_n 1, 1) := by decide +kernel
theorem dX4_get_18 : decode cX4_get 18 = .ok (.iaload, 1) := by decide +kernel
theorem dX4_get_19 : decode cX4_get 19 = .ok (.goto 4, 3) := by decide +kernel
theorem dX4_get_22 : decode cX4_get 22 = .ok (.iconst 0, 1) := by decide +kernel
theorem dX4_get_23 : decode cX4_get 23 = .ok (.ireturn, 1) := by decide +kernel
theorem iX4_get_4 : ∀ w ∈ u_ws RX4 TX4 1, w ∈ wsX4_get := fun w h => List.mem_cons_of_mem _ (List.mem_append_right _ (h))
set_option maxHeartbeats 4000000 in
set_option maxRecDepth 100000 in
theorem c_X4_get {E : EE} {l : Launch} {g : GG} {ad : Nat → Nat} (hg : gwf g) {o0 : Nat} {x1 : Int} {M : Mm} {Q : Int → Mm → Prop} (k_o0 : gk g o0 = 4) (h : p_X4_get g o0 x1 M Q) : Ct E l yX4_get wsX4_get rmX4_get g ad [.ref (ad o0), cI x1] M (QI E g ad Q) := by
  refine ent (cc := cX4_get) (maxL := 2) (ret := (some .int)) (own := RX4) (by decide +kernel) rfl rfl (Nat.le_of_ble_eq_true rfl) ?_
  intro p e s m below meth c ls X hr hlk K w hl
  have hl : lv_has ls 2 [(0, .ref (ad o0)), (1, cI x1)] := hl
  unfold p_X4_get at h
  refine lv_iload_n X.1 X.2.1 dX4_get_0 rfl (lv_at hl 1 rfl) ?_
  obtain ⟨i0, h1, h2⟩ := h
  refine r_if_lt (tgt := 22) X i0 dX4_get_1 (by decide) (fun cc => ?_) (fun cc => ?_)
  · have h := h1 cc
    refine r_iconst X dX4_get_22 ?_
    exact r_ireturn X hr hlk K w h dX4_get_23
  · have h := h2 cc
    refine lv_iload_n X.1 X.2.1 dX4_get_4 rfl (lv_at hl 1 rfl) ?_
    refine lv_aload_n X.1 X.2.1 dX4_get_5 rfl (lv_at hl 0 rfl) ?_
    refine r_getr (N := 1) (T := TX4) X K w iX4_get_4 k_o0 rfl (by decide) 0 (by decide) rfl rfl (List.mem_of_getElem? (i := 1) rfl) dX4_get_6 ?_
    have k1 : gk g (o0 + 1) = 9 := gch hg k_o0 (by decide) 0 (by decide) rfl rfl
    refine r_alen X K w k1 dX4_get_9 ?_
    obtain ⟨i0, h1, h2⟩ := h
    refine r_icmp_ge (tgt := 22) X i0 (inR_n (hg.2 _)) dX4_get_10 (by decide) (fun cc => ?_) (fun cc => ?_)
    · have h := h1 cc
      refine r_iconst X dX4_get_22 ?_
      exact r_ireturn X hr hlk K w h dX4_get_23
    · have h := h2 cc
      refine lv_aload_n X.1 X.2.1 dX4_get_13 rfl (lv_at hl 0 rfl) ?_
      refine r_getr (N := 1) (T := TX4) X K w iX4_get_4 k_o0 rfl (by decide) 0 (by decide) rfl rfl (List.mem_of_getElem? (i := 1) rfl) dX4_get_14 ?_
      have k2 : gk g (o0 + 1) = 9 := gch hg k_o0 (by decide) 0 (by decide) rfl rfl
      refine lv_iload_n X.1 X.2.1 dX4_get_17 rfl (lv_at hl 1 rfl) ?_
      obtain ⟨b0, b1, h⟩ := h
      refine r_iald X K w hg k2 b0 b1 dX4_get_18 ?_
      refine lv_goto (tgt := 23) X.1 X.2.1 dX4_get_19 (by decide) ?_
      exact r_ireturn X hr hlk K w h dX4_get_23
theorem dX0_endOf_0 : decode cX0_endOf 0 = .ok (.aload_n 0, 1) := by decide +kernel
theorem dX0_endOf_1 : decode cX0_endOf 1 = .ok (.getfield 23, 3) := by decide +kernel
theorem dX0_endOf_4 : decode cX0_endOf 4 = .ok (.iload_n 1, 1) := by decide +kernel
theorem dX0_endOf_5 : decode cX0_endOf 5 = .ok (.invokevirtual 46, 3) := by decide +kernel
theorem dX0_endOf_8 : decode cX0_endOf 8 = .ok (.aload_n 0, 1) := by decide +kernel
theorem dX0_endOf_9 : decode cX0_endOf 9 = .ok (.getfield 33, 3) := by decide +kernel
theorem dX0_endOf_12 : decode cX0_endOf 12 = .ok (.iload_n 1, 1) := by decide +kernel
theorem dX0_endOf_13 : decode cX0_endOf 13 = .ok (.invokevirtual 46, 3) := by decide +kernel
theorem dX0_endOf_16 : decode cX0_endOf 16 = .ok (.iadd, 1) := by decide +kernel
theorem dX0_endOf_17 : decode cX0_endOf 17 = .ok (.ireturn, 1) := by decide +kernel
set_option maxRecDepth 20000 in
theorem ggX0_endOf_X4_get : GoodIn wsX0_endOf wsX4_get := goodIn_r _ [7, 8, 15] (by decide +kernel) (by decide +kernel)
set_option maxRecDepth 20000 in
theorem gX0_endOf_X4_get : GoodIn wsX0_endOf (wsV RX0 46 RX4 yX4_get wsX4_get) := goodIn_app (goodIn_of _ (by decide +kernel)) ggX0_endOf_X4_get
theorem iX0_endOf_0 : ∀ w ∈ u_ws RX0 TX0 6, w ∈ wsX0_endOf := fun w h => List.mem_cons_of_mem _ (List.mem_append_left _ (List.mem_append_right _ (h)))
set_option maxHeartbeats 4000000 in
set_option maxRecDepth 100000 in
theorem c_X0_endOf {E : EE} {l : Launch} {g : GG} {ad : Nat → Nat} (hg : gwf g) {o0 : Nat} {x1 : Int} {M : Mm} {Q : Int → Mm → Prop} (k_o0 : gk g o0 = 0) (h : p_X0_endOf g o0 x1 M Q) : Ct E l yX0_endOf wsX0_endOf rmX0_endOf g ad [.ref (ad o0), cI x1] M (QI E g ad Q) := by
  refine ent (cc := cX0_endOf) (maxL := 2) (ret := (some .int)) (own := RX0) (by decide +kernel) rfl rfl (Nat.le_of_ble_eq_true rfl) ?_
  intro p e s m below meth c ls X hr hlk K w hl
  have hl : lv_has ls 2 [(0, .ref (ad o0)), (1, cI x1)] := hl
  unfold p_X0_endOf at h
  refine lv_aload_n X.1 X.2.1 dX0_endOf_0 rfl (lv_at hl 0 rfl) ?_
  refine r_getr (N := 6) (T := TX0) X K w iX0_endOf_0 k_o0 rfl (by decide) 1 (by decide) rfl rfl (List.mem_of_getElem? (i := 1) rfl) dX0_endOf_1 ?_
  have k1 : gk g (o0 + 1) = 4 := gch hg k_o0 (by decide) 1 (by decide) rfl rfl
  refine lv_iload_n X.1 X.2.1 dX0_endOf_4 rfl (lv_at hl 1 rfl) ?_
  refine q_i (x_V (As := [cI x1]) (rest := []) X K w (c_X4_get hg k1 h) (cwV 1 X.2.2.2.2 gX0_endOf_X4_get rfl rfl rfl (by decide +kernel) ⟨Nat.le_of_ble_eq_true rfl, Nat.le_of_ble_eq_true rfl⟩) k1 (by decide) rfl rfl hl rfl (Nat.le_of_ble_eq_true rfl) dX0_endOf_5 ⟨Nat.le_of_ble_eq_true rfl, Nat.le_of_ble_eq_true rfl⟩) w (fun r3 M2 H locs h w => ?_)
  refine lv_aload_n X.1 X.2.1 dX0_endOf_8 rfl (lv_at hl 0 rfl) ?_
  refine r_getr (N := 6) (T := TX0) X K w iX0_endOf_0 k_o0 rfl (by decide) 4 (by decide) rfl rfl (List.mem_of_getElem? (i := 2) rfl) dX0_endOf_9 ?_
  have k4 : gk g (o0 + 7) = 4 := gch hg k_o0 (by decide) 4 (by decide) rfl rfl
  refine lv_iload_n X.1 X.2.1 dX0_endOf_12 rfl (lv_at hl 1 rfl) ?_
  refine q_i (x_V (As := [cI x1]) (rest := [cI r3]) X K w (c_X4_get hg k4 h) (cwV 1 X.2.2.2.2 gX0_endOf_X4_get rfl rfl rfl (by decide +kernel) ⟨Nat.le_of_ble_eq_true rfl, Nat.le_of_ble_eq_true rfl⟩) k4 (by decide) rfl rfl hl rfl (Nat.le_of_ble_eq_true rfl) dX0_endOf_13 ⟨Nat.le_of_ble_eq_true rfl, Nat.le_of_ble_eq_true rfl⟩) w (fun r6 M5 H locs h w => ?_)
  refine r_iadd X dX0_endOf_16 ?_
  exact r_ireturn X hr hlk K w h dX0_endOf_17
theorem dX0_has_0 : decode cX0_has 0 = .ok (.iconst 0, 1) := by decide +kernel
theorem dX0_has_1 : decode cX0_has 1 = .ok (.istore 4, 2) := by decide +kernel
theorem dX0_has_3 : decode cX0_has 3 = .ok (.iload 4, 2) := by decide +kernel
theorem dX0_has_5 : decode cX0_has 5 = .ok (.aload_n 0, 1) := by decide +kernel
theorem dX0_has_6 : decode cX0_has 6 = .ok (.getfield 9, 3) := by decide +kernel
theorem dX0_has_9 : decode cX0_has 9 = .ok (.if_icmp .ge 50, 3) := by decide +kernel
theorem dX0_has_12 : decode cX0_has 12 = .ok (.aload_n 0, 1) := by decide +kernel
theorem dX0_has_13 : decode cX0_has 13 = .ok (.getfield 27, 3) := by decide +kernel
theorem dX0_has_16 : decode cX0_has 16 = .ok (.iload 4, 2) := by decide +kernel
theorem dX0_has_18 : decode cX0_has 18 = .ok (.invokevirtual 46, 3) := by decide +kernel
theorem dX0_has_21 : decode cX0_has 21 = .ok (.iload_n 1, 1) := by decide +kernel
theorem dX0_has_22 : decode cX0_has 22 = .ok (.if_icmp .ne 31, 3) := by decide +kernel
theorem dX0_has_25 : decode cX0_has 25 = .ok (.aload_n 0, 1) := by decide +kernel
theorem dX0_has_26 : decode cX0_has 26 = .ok (.getfield 23, 3) := by decide +kernel
theorem dX0_has_29 : decode cX0_has 29 = .ok (.iload 4, 2) := by decide +kernel
theorem dX0_has_31 : decode cX0_has 31 = .ok (.invokevirtual 46, 3) := by decide +kernel
theorem dX0_has_34 : decode cX0_has 34 = .ok (.iload_n 2, 1) := by decide +kernel
theorem dX0_has_35 : decode cX0_has 35 = .ok (.if_icmp .ne 18, 3) := by decide +kernel
theorem dX0_has_38 : decode cX0_has 38 = .ok (.aload_n 0, 1) := by decide +kernel
theorem dX0_has_39 : decode cX0_has 39 = .ok (.getfield 30, 3) := by decide +kernel
theorem dX0_has_42 : decode cX0_has 42 = .ok (.iload 4, 2) := by decide +kernel
theorem dX0_has_44 : decode cX0_has 44 = .ok (.invokevirtual 46, 3) := by decide +kernel
theorem dX0_has_47 : decode cX0_has 47 = .ok (.iload_n 3, 1) := by decide +kernel
theorem dX0_has_48 : decode cX0_has 48 = .ok (.if_icmp .ne 5, 3) := by decide +kernel
theorem dX0_has_51 : decode cX0_has 51 = .ok (.iconst 1, 1) := by decide +kernel
theorem dX0_has_52 : decode cX0_has 52 = .ok (.ireturn, 1) := by decide +kernel
theorem dX0_has_53 : decode cX0_has 53 = .ok (.iinc 4 1, 3) := by decide +kernel
theorem dX0_has_56 : decode cX0_has 56 = .ok (.goto (-53), 3) := by decide +kernel
theorem dX0_has_59 : decode cX0_has 59 = .ok (.iconst 0, 1) := by decide +kernel
theorem dX0_has_60 : decode cX0_has 60 = .ok (.ireturn, 1) := by decide +kernel
set_option maxRecDepth 20000 in
theorem ggX0_has_X4_get : GoodIn wsX0_has wsX4_get := goodIn_r _ [9, 10, 17] (by decide +kernel) (by decide +kernel)
set_option maxRecDepth 20000 in
theorem gX0_has_X4_get : GoodIn wsX0_has (wsV RX0 46 RX4 yX4_get wsX4_get) := goodIn_app (goodIn_of _ (by decide +kernel)) ggX0_has_X4_get
theorem iX0_has_0 : ∀ w ∈ u_ws RX0 TX0 6, w ∈ wsX0_has := fun w h => List.mem_cons_of_mem _ (List.mem_append_left _ (List.mem_append_right _ (h)))
set_option maxHeartbeats 4000000 in
set_option maxRecDepth 100000 in
theorem w_X0_has_L3 {p : Program} {l : Launch} {e : Env} {s : State} {m : MethodId} {args : Array Value} {below : List Frame} {meth : Method} {c : Code} {E : EE} {g : GG} {ad : Nat → Nat} (hg : gwf g) (X : CallFix p m c cX0_has 5 s args wsX0_has RX0) (K : Kn E s) (hr : meth.sig.returnType = (some .boolean)) (hlk : meth.locks = false) {Q : Int → Mm → Prop} : ∀ (n : Nat) (o0 : Nat) (x1 : Int) (x2 : Int) (x3 : Int) (x4 : Int) (M : Mm) (H : Heap) (locs : List Loc) (ls : Array Slot), gk g o0 = 0 → Rw E g ad M s.heap H locs → lv_has ls 5 [(0, .ref (ad o0)), (1, cI x1), (2, cI x2), (3, cI x3), (4, cI x4)] → p_X0_has_L3 g n o0 x1 x2 x3 x4 M Q → W p l e rmX0_has s m args below meth c H locs 0 0 (MQ below (QI E g ad Q) args s 0 0 (Rg g ad)) (F0 m 3 ls []) := by
  intro n
  induction n with
  | zero =>
    intro o0 x1 x2 x3 x4 M H locs ls k_o0 w hl h
    exact absurd h (by unfold p_X0_has_L3; exact id)
  | succ n ih =>
    intro o0 x1 x2 x3 x4 M H locs ls k_o0 w hl h
    unfold p_X0_has_L3 at h
    refine lv_iload X.1 X.2.1 dX0_has_3 (lv_at hl 4 rfl) ?_
    refine lv_aload_n X.1 X.2.1 dX0_has_5 rfl (lv_at hl 0 rfl) ?_
    refine r_geti (N := 6) (T := TX0) (kz := 5) X K w iX0_has_0 k_o0 rfl (by decide) 5 (by decide) rfl rfl rfl (List.mem_of_getElem? (i := 1) rfl) dX0_has_6 ?_
    obtain ⟨i0, i1, h1, h2⟩ := h
    refine r_icmp_ge (tgt := 59) X i0 i1 dX0_has_9 (by decide) (fun cc => ?_) (fun cc => ?_)
    · have h := h1 cc
      refine r_iconst X dX0_has_59 ?_
      exact r_zreturn X hr hlk K w (by decide +kernel) h dX0_has_60
    · have h := h2 cc
      refine lv_aload_n X.1 X.2.1 dX0_has_12 rfl (lv_at hl 0 rfl) ?_
      refine r_getr (N := 6) (T := TX0) X K w iX0_has_0 k_o0 rfl (by decide) 2 (by decide) rfl rfl (List.mem_of_getElem? (i := 2) rfl) dX0_has_13 ?_
      have k1 : gk g (o0 + 3) = 4 := gch hg k_o0 (by decide) 2 (by decide) rfl rfl
      refine lv_iload X.1 X.2.1 dX0_has_16 (lv_at hl 4 rfl) ?_
      refine q_i (x_V (As := [cI x4]) (rest := []) X K w (c_X4_get hg k1 h) (cwV 1 X.2.2.2.2 gX0_has_X4_get rfl rfl rfl (by decide +kernel) ⟨Nat.le_of_ble_eq_true rfl, Nat.le_of_ble_eq_true rfl⟩) k1 (by decide) rfl rfl hl rfl (Nat.le_of_ble_eq_true rfl) dX0_has_18 ⟨Nat.le_of_ble_eq_true rfl, Nat.le_of_ble_eq_true rfl⟩) w (fun r3 M2 H locs h w => ?_)
      refine lv_iload_n X.1 X.2.1 dX0_has_21 rfl (lv_at hl 1 rfl) ?_
      obtain ⟨i0, i1, h1, h2⟩ := h
      refine r_icmp_ne (tgt := 53) X i0 i1 dX0_has_22 (by decide) (fun cc => ?_) (fun cc => ?_)
      · have h := h1 cc
        refine r_iinc (lv' := [(4, cI (x4 + 1)), (0, .ref (ad o0)), (1, cI x1), (2, cI x2), (3, cI x3)]) X hl (k := 4) rfl (by decide) dX0_has_53 rfl (fun ls hl => ?_)
        refine lv_goto (tgt := 3) X.1 X.2.1 dX0_has_56 (by decide) ?_
        exact ih o0 x1 x2 x3 (x4 + 1) M2 _ _ _ k_o0 w (lv_sub hl [1, 2, 3, 4, 0] rfl) h
      · have h := h2 cc
        refine lv_aload_n X.1 X.2.1 dX0_has_25 rfl (lv_at hl 0 rfl) ?_
        refine r_getr (N := 6) (T := TX0) X K w iX0_has_0 k_o0 rfl (by decide) 1 (by decide) rfl rfl (List.mem_of_getElem? (i := 3) rfl) dX0_has_26 ?_
        have k4 : gk g (o0 + 1) = 4 := gch hg k_o0 (by decide) 1 (by decide) rfl rfl
        refine lv_iload X.1 X.2.1 dX0_has_29 (lv_at hl 4 rfl) ?_
        refine q_i (x_V (As := [cI x4]) (rest := []) X K w (c_X4_get hg k4 h) (cwV 1 X.2.2.2.2 gX0_has_X4_get rfl rfl rfl (by decide +kernel) ⟨Nat.le_of_ble_eq_true rfl, Nat.le_of_ble_eq_true rfl⟩) k4 (by decide) rfl rfl hl rfl (Nat.le_of_ble_eq_true rfl) dX0_has_31 ⟨Nat.le_of_ble_eq_true rfl, Nat.le_of_ble_eq_true rfl⟩) w (fun r6 M5 H locs h w => ?_)
        refine lv_iload_n X.1 X.2.1 dX0_has_34 rfl (lv_at hl 2 rfl) ?_
        obtain ⟨i0, i1, h1, h2⟩ := h
        refine r_icmp_ne (tgt := 53) X i0 i1 dX0_has_35 (by decide) (fun cc => ?_) (fun cc => ?_)
        · have h := h1 cc
          refine r_iinc (lv' := [(4, cI (x4 + 1)), (0, .ref (ad o0)), (1, cI x1), (2, cI x2), (3, cI x3)]) X hl (k := 4) rfl (by decide) dX0_has_53 rfl (fun ls hl => ?_)
          refine lv_goto (tgt := 3) X.1 X.2.1 dX0_has_56 (by decide) ?_
          exact ih o0 x1 x2 x3 (x4 + 1) M5 _ _ _ k_o0 w (lv_sub hl [1, 2, 3, 4, 0] rfl) h
        · have h := h2 cc
          refine lv_aload_n X.1 X.2.1 dX0_has_38 rfl (lv_at hl 0 rfl) ?_
          refine r_getr (N := 6) (T := TX0) X K w iX0_has_0 k_o0 rfl (by decide) 3 (by decide) rfl rfl (List.mem_of_getElem? (i := 4) rfl) dX0_has_39 ?_
          have k7 : gk g (o0 + 5) = 4 := gch hg k_o0 (by decide) 3 (by decide) rfl rfl
          refine lv_iload X.1 X.2.1 dX0_has_42 (lv_at hl 4 rfl) ?_
          refine q_i (x_V (As := [cI x4]) (rest := []) X K w (c_X4_get hg k7 h) (cwV 1 X.2.2.2.2 gX0_has_X4_get rfl rfl rfl (by decide +kernel) ⟨Nat.le_of_ble_eq_true rfl, Nat.le_of_ble_eq_true rfl⟩) k7 (by decide) rfl rfl hl rfl (Nat.le_of_ble_eq_true rfl) dX0_has_44 ⟨Nat.le_of_ble_eq_true rfl, Nat.le_of_ble_eq_true rfl⟩) w (fun r9 M8 H locs h w => ?_)
          refine lv_iload_n X.1 X.2.1 dX0_has_47 rfl (lv_at hl 3 rfl) ?_
          obtain ⟨i0, i1, h1, h2⟩ := h
          refine r_icmp_ne (tgt := 53) X i0 i1 dX0_has_48 (by decide) (fun cc => ?_) (fun cc => ?_)
          · have h := h1 cc
            refine r_iinc (lv' := [(4, cI (x4 + 1)), (0, .ref (ad o0)), (1, cI x1), (2, cI x2), (3, cI x3)]) X hl (k := 4) rfl (by decide) dX0_has_53 rfl (fun ls hl => ?_)
            refine lv_goto (tgt := 3) X.1 X.2.1 dX0_has_56 (by decide) ?_
            exact ih o0 x1 x2 x3 (x4 + 1) M8 _ _ _ k_o0 w (lv_sub hl [1, 2, 3, 4, 0] rfl) h
          · have h := h2 cc
            refine r_iconst X dX0_has_51 ?_
            exact r_zreturn X hr hlk K w (by decide +kernel) h dX0_has_52
set_option maxHeartbeats 4000000 in
set_option maxRecDepth 100000 in
theorem c_X0_has {E : EE} {l : Launch} {g : GG} {ad : Nat → Nat} (hg : gwf g) {o0 : Nat} {x1 : Int} {x2 : Int} {x3 : Int} {M : Mm} {Q : Int → Mm → Prop} (k_o0 : gk g o0 = 0) (h : p_X0_has g o0 x1 x2 x3 M Q) : Ct E l yX0_has wsX0_has rmX0_has g ad [.ref (ad o0), cI x1, cI x2, cI x3] M (QI E g ad Q) := by
  refine ent (cc := cX0_has) (maxL := 5) (ret := (some .boolean)) (own := RX0) (by decide +kernel) rfl rfl (Nat.le_of_ble_eq_true rfl) ?_
  intro p e s m below meth c ls X hr hlk K w hl
  have hl : lv_has ls 5 [(0, .ref (ad o0)), (1, cI x1), (2, cI x2), (3, cI x3)] := hl
  unfold p_X0_has at h
  refine r_iconst X dX0_has_0 ?_
  refine lv_istore (lv' := [(4, cI 0), (0, .ref (ad o0)), (1, cI x1), (2, cI x2), (3, cI x3)]) X.1 X.2.1 dX0_has_1 hl (by decide) rfl (fun ls hl => ?_)
  obtain ⟨n10, h⟩ := h
  exact w_X0_has_L3 hg X K hr hlk n10 o0 x1 x2 x3 0 M _ _ _ k_o0 w (lv_sub hl [1, 2, 3, 4, 0] rfl) h
theorem dX4_put_0 : decode cX4_put 0 = .ok (.iload_n 1, 1) := by decide +kernel
theorem dX4_put_1 : decode cX4_put 1 = .ok (.ifCond .lt 19, 3) := by decide +kernel
theorem dX4_put_4 : decode cX4_put 4 = .ok (.iload_n 1, 1) := by decide +kernel
theorem dX4_put_5 : decode cX4_put 5 = .ok (.aload_n 0, 1) := by decide +kernel
theorem dX4_put_6 : decode cX4_put 6 = .ok (.getfield 13, 3) := by decide +kernel
theorem dX4_put_9 : decode cX4_put 9 = .ok (.arraylength, 1) := by decide +kernel
theorem dX4_put_10 : decode cX4_put 10 = .ok (.if_icmp .ge 10, 3) := by decide +kernel
theorem dX4_put_13 : decode cX4_put 13 = .ok (.aload_n 0, 1) := by decide +kernel
theorem dX4_put_14 : decode cX4_put 14 = .ok (.getfield 13, 3) := by decide +kernel
theorem dX4_put_17 : decode cX4_put 17 = .ok (.iload_n 1, 1) := by decide +kernel
theorem dX4_put_18 : decode cX4_put 18 = .ok (.iload_n 2, 1) := by decide +kernel
theorem dX4_put_19 : decode cX4_put 19 = .ok (.iastore, 1) := by decide +kernel
theorem dX4_put_20 : decode cX4_put 20 = .ok (.return_, 1) := by decide +kernel
theorem iX4_put_4 : ∀ w ∈ u_ws RX4 TX4 1, w ∈ wsX4_put := fun w h => List.mem_cons_of_mem _ (List.mem_append_right _ (h))
set_option maxHeartbeats 4000000 in
set_option maxRecDepth 100000 in
theorem c_X4_put {E : EE} {l : Launch} {g : GG} {ad : Nat → Nat} (hg : gwf g) {o0 : Nat} {x1 : Int} {x2 : Int} {M : Mm} {Q : Mm → Prop} (k_o0 : gk g o0 = 4) (h : p_X4_put g o0 x1 x2 M Q) : Ct E l yX4_put wsX4_put rmX4_put g ad [.ref (ad o0), cI x1, cI x2] M (QV E g ad Q) := by
  refine ent (cc := cX4_put) (maxL := 3) (ret := none) (own := RX4) (by decide +kernel) rfl rfl (Nat.le_of_ble_eq_true rfl) ?_
  intro p e s m below meth c ls X hr hlk K w hl
  have hl : lv_has ls 3 [(0, .ref (ad o0)), (1, cI x1), (2, cI x2)] := hl
  unfold p_X4_put at h
  refine lv_iload_n X.1 X.2.1 dX4_put_0 rfl (lv_at hl 1 rfl) ?_
  obtain ⟨i0, h1, h2⟩ := h
  refine r_if_lt (tgt := 20) X i0 dX4_put_1 (by decide) (fun cc => ?_) (fun cc => ?_)
  · have h := h1 cc
    exact r_return X hr hlk K w h dX4_put_20
  · have h := h2 cc
    refine lv_iload_n X.1 X.2.1 dX4_put_4 rfl (lv_at hl 1 rfl) ?_
    refine lv_aload_n X.1 X.2.1 dX4_put_5 rfl (lv_at hl 0 rfl) ?_
    refine r_getr (N := 1) (T := TX4) X K w iX4_put_4 k_o0 rfl (by decide) 0 (by decide) rfl rfl (List.mem_of_getElem? (i := 1) rfl) dX4_put_6 ?_
    have k1 : gk g (o0 + 1) = 9 := gch hg k_o0 (by decide) 0 (by decide) rfl rfl
    refine r_alen X K w k1 dX4_put_9 ?_
    obtain ⟨i0, h1, h2⟩ := h
    refine r_icmp_ge (tgt := 20) X i0 (inR_n (hg.2 _)) dX4_put_10 (by decide) (fun cc => ?_) (fun cc => ?_)
    · have h := h1 cc
      exact r_return X hr hlk K w h dX4_put_20
    · have h := h2 cc
      refine lv_aload_n X.1 X.2.1 dX4_put_13 rfl (lv_at hl 0 rfl) ?_
      refine r_getr (N := 1) (T := TX4) X K w iX4_put_4 k_o0 rfl (by decide) 0 (by decide) rfl rfl (List.mem_of_getElem? (i := 1) rfl) dX4_put_14 ?_
      have k2 : gk g (o0 + 1) = 9 := gch hg k_o0 (by decide) 0 (by decide) rfl rfl
      refine lv_iload_n X.1 X.2.1 dX4_put_17 rfl (lv_at hl 1 rfl) ?_
      refine lv_iload_n X.1 X.2.1 dX4_put_18 rfl (lv_at hl 2 rfl) ?_
      obtain ⟨b0, b1, h⟩ := h
      refine r_iast X K w hg k2 b0 b1 dX4_put_19 (fun M3 H locs e w => ?_)
      replace h := h M3 e
      exact r_return X hr hlk K w h dX4_put_20
theorem dX0_append_0 : decode cX0_append 0 = .ok (.aload_n 0, 1) := by decide +kernel
theorem dX0_append_1 : decode cX0_append 1 = .ok (.getfield 9, 3) := by decide +kernel
theorem dX0_append_4 : decode cX0_append 4 = .ok (.aload_n 0, 1) := by decide +kernel
theorem dX0_append_5 : decode cX0_append 5 = .ok (.getfield 15, 3) := by decide +kernel
theorem dX0_append_8 : decode cX0_append 8 = .ok (.if_icmp .lt 4, 3) := by decide +kernel
theorem dX0_append_11 : decode cX0_append 11 = .ok (.return_, 1) := by decide +kernel
theorem dX0_append_12 : decode cX0_append 12 = .ok (.aload_n 0, 1) := by decide +kernel
theorem dX0_append_13 : decode cX0_append 13 = .ok (.getfield 27, 3) := by decide +kernel
theorem dX0_append_16 : decode cX0_append 16 = .ok (.aload_n 0, 1) := by decide +kernel
theorem dX0_append_17 : decode cX0_append 17 = .ok (.getfield 9, 3) := by decide +kernel
theorem dX0_append_20 : decode cX0_append 20 = .ok (.iload_n 1, 1) := by decide +kernel
theorem dX0_append_21 : decode cX0_append 21 = .ok (.invokevirtual 50, 3) := by decide +kernel
theorem dX0_append_24 : decode cX0_append 24 = .ok (.aload_n 0, 1) := by decide +kernel
theorem dX0_append_25 : decode cX0_append 25 = .ok (.getfield 23, 3) := by decide +kernel
theorem dX0_append_28 : decode cX0_append 28 = .ok (.aload_n 0, 1) := by decide +kernel
theorem dX0_append_29 : decode cX0_append 29 = .ok (.getfield 9, 3) := by decide +kernel
theorem dX0_append_32 : decode cX0_append 32 = .ok (.iload_n 2, 1) := by decide +kernel
theorem dX0_append_33 : decode cX0_append 33 = .ok (.invokevirtual 50, 3) := by decide +kernel
theorem dX0_append_36 : decode cX0_append 36 = .ok (.aload_n 0, 1) := by decide +kernel
theorem dX0_append_37 : decode cX0_append 37 = .ok (.getfield 30, 3) := by decide +kernel
theorem dX0_append_40 : decode cX0_append 40 = .ok (.aload_n 0, 1) := by decide +kernel
theorem dX0_append_41 : decode cX0_append 41 = .ok (.getfield 9, 3) := by decide +kernel
theorem dX0_append_44 : decode cX0_append 44 = .ok (.iload_n 3, 1) := by decide +kernel
theorem dX0_append_45 : decode cX0_append 45 = .ok (.invokevirtual 50, 3) := by decide +kernel
theorem dX0_append_48 : decode cX0_append 48 = .ok (.aload_n 0, 1) := by decide +kernel
theorem dX0_append_49 : decode cX0_append 49 = .ok (.getfield 33, 3) := by decide +kernel
theorem dX0_append_52 : decode cX0_append 52 = .ok (.aload_n 0, 1) := by decide +kernel
theorem dX0_append_53 : decode cX0_append 53 = .ok (.getfield 9, 3) := by decide +kernel
theorem dX0_append_56 : decode cX0_append 56 = .ok (.iload 4, 2) := by decide +kernel
theorem dX0_append_58 : decode cX0_append 58 = .ok (.invokevirtual 50, 3) := by decide +kernel
theorem dX0_append_61 : decode cX0_append 61 = .ok (.aload_n 0, 1) := by decide +kernel
theorem dX0_append_62 : decode cX0_append 62 = .ok (.dup, 1) := by decide +kernel
theorem dX0_append_63 : decode cX0_append 63 = .ok (.getfield 9, 3) := by decide +kernel
theorem dX0_append_66 : decode cX0_append 66 = .ok (.iconst 1, 1) := by decide +kernel
theorem dX0_append_67 : decode cX0_append 67 = .ok (.iadd, 1) := by decide +kernel
theorem dX0_append_68 : decode cX0_append 68 = .ok (.putfield 9, 3) := by decide +kernel
theorem dX0_append_71 : decode cX0_append 71 = .ok (.return_, 1) := by decide +kernel
set_option maxRecDepth 20000 in
theorem ggX0_append_X4_put : GoodIn wsX0_append wsX4_put := goodIn_r _ [11, 12, 19] (by decide +kernel) (by decide +kernel)
set_option maxRecDepth 20000 in
theorem gX0_append_X4_put : GoodIn wsX0_append (wsV RX0 50 RX4 yX4_put wsX4_put) := goodIn_app (goodIn_of _ (by decide +kernel)) ggX0_append_X4_put
theorem iX0_append_0 : ∀ w ∈ u_ws RX0 TX0 6, w ∈ wsX0_append := fun w h => List.mem_cons_of_mem _ (List.mem_append_left _ (List.mem_append_right _ (h)))
set_option maxHeartbeats 4000000 in
set_option maxRecDepth 100000 in
theorem c_X0_append {E : EE} {l : Launch} {g : GG} {ad : Nat → Nat} (hg : gwf g) {o0 : Nat} {x1 : Int} {x2 : Int} {x3 : Int} {x4 : Int} {M : Mm} {Q : Mm → Prop} (k_o0 : gk g o0 = 0) (h : p_X0_append g o0 x1 x2 x3 x4 M Q) : Ct E l yX0_append wsX0_append rmX0_append g ad [.ref (ad o0), cI x1, cI x2, cI x3, cI x4] M (QV E g ad Q) := by
  refine ent (cc := cX0_append) (maxL := 5) (ret := none) (own := RX0) (by decide +kernel) rfl rfl (Nat.le_of_ble_eq_true rfl) ?_
  intro p e s m below meth c ls X hr hlk K w hl
  have hl : lv_has ls 5 [(0, .ref (ad o0)), (1, cI x1), (2, cI x2), (3, cI x3), (4, cI x4)] := hl
  unfold p_X0_append at h
  refine lv_aload_n X.1 X.2.1 dX0_append_0 rfl (lv_at hl 0 rfl) ?_
  refine r_geti (N := 6) (T := TX0) (kz := 5) X K w iX0_append_0 k_o0 rfl (by decide) 5 (by decide) rfl rfl rfl (List.mem_of_getElem? (i := 1) rfl) dX0_append_1 ?_
  refine lv_aload_n X.1 X.2.1 dX0_append_4 rfl (lv_at hl 0 rfl) ?_
  refine r_geti (N := 6) (T := TX0) (kz := 0) X K w iX0_append_0 k_o0 rfl (by decide) 0 (by decide) rfl rfl rfl (List.mem_of_getElem? (i := 2) rfl) dX0_append_5 ?_
  obtain ⟨i0, i1, h1, h2⟩ := h
  refine r_icmp_lt (tgt := 12) X i0 i1 dX0_append_8 (by decide) (fun cc => ?_) (fun cc => ?_)
  · have h := h1 cc
    refine lv_aload_n X.1 X.2.1 dX0_append_12 rfl (lv_at hl 0 rfl) ?_
    refine r_getr (N := 6) (T := TX0) X K w iX0_append_0 k_o0 rfl (by decide) 2 (by decide) rfl rfl (List.mem_of_getElem? (i := 3) rfl) dX0_append_13 ?_
    have k1 : gk g (o0 + 3) = 4 := gch hg k_o0 (by decide) 2 (by decide) rfl rfl
    refine lv_aload_n X.1 X.2.1 dX0_append_16 rfl (lv_at hl 0 rfl) ?_
    refine r_geti (N := 6) (T := TX0) (kz := 5) X K w iX0_append_0 k_o0 rfl (by decide) 5 (by decide) rfl rfl rfl (List.mem_of_getElem? (i := 1) rfl) dX0_append_17 ?_
    refine lv_iload_n X.1 X.2.1 dX0_append_20 rfl (lv_at hl 1 rfl) ?_
    refine q_v (x_V (As := [cI (M o0 5), cI x1]) (rest := []) X K w (c_X4_put hg k1 h) (cwV 2 X.2.2.2.2 gX0_append_X4_put rfl rfl rfl (by decide +kernel) ⟨Nat.le_of_ble_eq_true rfl, Nat.le_of_ble_eq_true rfl⟩) k1 (by decide) rfl rfl hl rfl (Nat.le_of_ble_eq_true rfl) dX0_append_21 ⟨Nat.le_of_ble_eq_true rfl, Nat.le_of_ble_eq_true rfl⟩) w (fun M2 H locs h w => ?_)
    refine lv_aload_n X.1 X.2.1 dX0_append_24 rfl (lv_at hl 0 rfl) ?_
    refine r_getr (N := 6) (T := TX0) X K w iX0_append_0 k_o0 rfl (by decide) 1 (by decide) rfl rfl (List.mem_of_getElem? (i := 4) rfl) dX0_append_25 ?_
    have k3 : gk g (o0 + 1) = 4 := gch hg k_o0 (by decide) 1 (by decide) rfl rfl
    refine lv_aload_n X.1 X.2.1 dX0_append_28 rfl (lv_at hl 0 rfl) ?_
    refine r_geti (N := 6) (T := TX0) (kz := 5) X K w iX0_append_0 k_o0 rfl (by decide) 5 (by decide) rfl rfl rfl (List.mem_of_getElem? (i := 1) rfl) dX0_append_29 ?_
    refine lv_iload_n X.1 X.2.1 dX0_append_32 rfl (lv_at hl 2 rfl) ?_
    refine q_v (x_V (As := [cI (M2 o0 5), cI x2]) (rest := []) X K w (c_X4_put hg k3 h) (cwV 2 X.2.2.2.2 gX0_append_X4_put rfl rfl rfl (by decide +kernel) ⟨Nat.le_of_ble_eq_true rfl, Nat.le_of_ble_eq_true rfl⟩) k3 (by decide) rfl rfl hl rfl (Nat.le_of_ble_eq_true rfl) dX0_append_33 ⟨Nat.le_of_ble_eq_true rfl, Nat.le_of_ble_eq_true rfl⟩) w (fun M4 H locs h w => ?_)
    refine lv_aload_n X.1 X.2.1 dX0_append_36 rfl (lv_at hl 0 rfl) ?_
    refine r_getr (N := 6) (T := TX0) X K w iX0_append_0 k_o0 rfl (by decide) 3 (by decide) rfl rfl (List.mem_of_getElem? (i := 5) rfl) dX0_append_37 ?_
    have k5 : gk g (o0 + 5) = 4 := gch hg k_o0 (by decide) 3 (by decide) rfl rfl
    refine lv_aload_n X.1 X.2.1 dX0_append_40 rfl (lv_at hl 0 rfl) ?_
    refine r_geti (N := 6) (T := TX0) (kz := 5) X K w iX0_append_0 k_o0 rfl (by decide) 5 (by decide) rfl rfl rfl (List.mem_of_getElem? (i := 1) rfl) dX0_append_41 ?_
    refine lv_iload_n X.1 X.2.1 dX0_append_44 rfl (lv_at hl 3 rfl) ?_
    refine q_v (x_V (As := [cI (M4 o0 5), cI x3]) (rest := []) X K w (c_X4_put hg k5 h) (cwV 2 X.2.2.2.2 gX0_append_X4_put rfl rfl rfl (by decide +kernel) ⟨Nat.le_of_ble_eq_true rfl, Nat.le_of_ble_eq_true rfl⟩) k5 (by decide) rfl rfl hl rfl (Nat.le_of_ble_eq_true rfl) dX0_append_45 ⟨Nat.le_of_ble_eq_true rfl, Nat.le_of_ble_eq_true rfl⟩) w (fun M6 H locs h w => ?_)
    refine lv_aload_n X.1 X.2.1 dX0_append_48 rfl (lv_at hl 0 rfl) ?_
    refine r_getr (N := 6) (T := TX0) X K w iX0_append_0 k_o0 rfl (by decide) 4 (by decide) rfl rfl (List.mem_of_getElem? (i := 6) rfl) dX0_append_49 ?_
    have k7 : gk g (o0 + 7) = 4 := gch hg k_o0 (by decide) 4 (by decide) rfl rfl
    refine lv_aload_n X.1 X.2.1 dX0_append_52 rfl (lv_at hl 0 rfl) ?_
    refine r_geti (N := 6) (T := TX0) (kz := 5) X K w iX0_append_0 k_o0 rfl (by decide) 5 (by decide) rfl rfl rfl (List.mem_of_getElem? (i := 1) rfl) dX0_append_53 ?_
    refine lv_iload X.1 X.2.1 dX0_append_56 (lv_at hl 4 rfl) ?_
    refine q_v (x_V (As := [cI (M6 o0 5), cI x4]) (rest := []) X K w (c_X4_put hg k7 h) (cwV 2 X.2.2.2.2 gX0_append_X4_put rfl rfl rfl (by decide +kernel) ⟨Nat.le_of_ble_eq_true rfl, Nat.le_of_ble_eq_true rfl⟩) k7 (by decide) rfl rfl hl rfl (Nat.le_of_ble_eq_true rfl) dX0_append_58 ⟨Nat.le_of_ble_eq_true rfl, Nat.le_of_ble_eq_true rfl⟩) w (fun M8 H locs h w => ?_)
    refine lv_aload_n X.1 X.2.1 dX0_append_61 rfl (lv_at hl 0 rfl) ?_
    refine lv_dup X.1 X.2.1 dX0_append_62 rfl ?_
    refine r_geti (N := 6) (T := TX0) (kz := 5) X K w iX0_append_0 k_o0 rfl (by decide) 5 (by decide) rfl rfl rfl (List.mem_of_getElem? (i := 1) rfl) dX0_append_63 ?_
    refine r_iconst X dX0_append_66 ?_
    refine r_iadd X dX0_append_67 ?_
    refine r_puti (N := 6) (T := TX0) (kz := 5) (ty := .int) X K w iX0_append_0 tyX0 tyX0_ok nmX0 k_o0 rfl (by decide) 5 (by decide) rfl rfl rfl rfl (by decide +kernel) rfl rfl (List.mem_of_getElem? (i := 1) rfl) dX0_append_68 (fun M9 H locs e w => ?_)
    replace h := h M9 e
    exact r_return X hr hlk K w h dX0_append_71
  · have h := h2 cc
    exact r_return X hr hlk K w h dX0_append_11
theorem dX0_order_0 : decode cX0_order 0 = .ok (.aload_n 0, 1) := by decide +kernel
theorem dX0_order_1 : decode cX0_order 1 = .ok (.getfield 23, 3) := by decide +kernel
theorem dX0_order_4 : decode cX0_order 4 = .ok (.iload_n 1, 1) := by decide +kernel
theorem dX0_order_5 : decode cX0_order 5 = .ok (.invokevirtual 46, 3) := by decide +kernel
theorem dX0_order_8 : decode cX0_order 8 = .ok (.bipush 6, 2) := by decide +kernel
theorem dX0_order_10 : decode cX0_order 10 = .ok (.imul, 1) := by decide +kernel
theorem dX0_order_11 : decode cX0_order 11 = .ok (.aload_n 0, 1) := by decide +kernel
theorem dX0_order_12 : decode cX0_order 12 = .ok (.getfield 27, 3) := by decide +kernel
theorem dX0_order_15 : decode cX0_order 15 = .ok (.iload_n 1, 1) := by decide +kernel
theorem dX0_order_16 : decode cX0_order 16 = .ok (.invokevirtual 46, 3) := by decide +kernel
theorem dX0_order_19 : decode cX0_order 19 = .ok (.iadd, 1) := by decide +kernel
theorem dX0_order_20 : decode cX0_order 20 = .ok (.bipush 10, 2) := by decide +kernel
theorem dX0_order_22 : decode cX0_order 22 = .ok (.imul, 1) := by decide +kernel
theorem dX0_order_23 : decode cX0_order 23 = .ok (.aload_n 0, 1) := by decide +kernel
theorem dX0_order_24 : decode cX0_order 24 = .ok (.getfield 30, 3) := by decide +kernel
theorem dX0_order_27 : decode cX0_order 27 = .ok (.iload_n 1, 1) := by decide +kernel
theorem dX0_order_28 : decode cX0_order 28 = .ok (.invokevirtual 46, 3) := by decide +kernel
theorem dX0_order_31 : decode cX0_order 31 = .ok (.iadd, 1) := by decide +kernel
theorem dX0_order_32 : decode cX0_order 32 = .ok (.ireturn, 1) := by decide +kernel
set_option maxRecDepth 20000 in
theorem ggX0_order_X4_get : GoodIn wsX0_order wsX4_get := goodIn_r _ [8, 9, 16] (by decide +kernel) (by decide +kernel)
set_option maxRecDepth 20000 in
theorem gX0_order_X4_get : GoodIn wsX0_order (wsV RX0 46 RX4 yX4_get wsX4_get) := goodIn_app (goodIn_of _ (by decide +kernel)) ggX0_order_X4_get
theorem iX0_order_0 : ∀ w ∈ u_ws RX0 TX0 6, w ∈ wsX0_order := fun w h => List.mem_cons_of_mem _ (List.mem_append_left _ (List.mem_append_right _ (h)))
set_option maxHeartbeats 4000000 in
set_option maxRecDepth 100000 in
theorem c_X0_order {E : EE} {l : Launch} {g : GG} {ad : Nat → Nat} (hg : gwf g) {o0 : Nat} {x1 : Int} {M : Mm} {Q : Int → Mm → Prop} (k_o0 : gk g o0 = 0) (h : p_X0_order g o0 x1 M Q) : Ct E l yX0_order wsX0_order rmX0_order g ad [.ref (ad o0), cI x1] M (QI E g ad Q) := by
  refine ent (cc := cX0_order) (maxL := 2) (ret := (some .int)) (own := RX0) (by decide +kernel) rfl rfl (Nat.le_of_ble_eq_true rfl) ?_
  intro p e s m below meth c ls X hr hlk K w hl
  have hl : lv_has ls 2 [(0, .ref (ad o0)), (1, cI x1)] := hl
  unfold p_X0_order at h
  refine lv_aload_n X.1 X.2.1 dX0_order_0 rfl (lv_at hl 0 rfl) ?_
  refine r_getr (N := 6) (T := TX0) X K w iX0_order_0 k_o0 rfl (by decide) 1 (by decide) rfl rfl (List.mem_of_getElem? (i := 1) rfl) dX0_order_1 ?_
  have k1 : gk g (o0 + 1) = 4 := gch hg k_o0 (by decide) 1 (by decide) rfl rfl
  refine lv_iload_n X.1 X.2.1 dX0_order_4 rfl (lv_at hl 1 rfl) ?_
  refine q_i (x_V (As := [cI x1]) (rest := []) X K w (c_X4_get hg k1 h) (cwV 1 X.2.2.2.2 gX0_order_X4_get rfl rfl rfl (by decide +kernel) ⟨Nat.le_of_ble_eq_true rfl, Nat.le_of_ble_eq_true rfl⟩) k1 (by decide) rfl rfl hl rfl (Nat.le_of_ble_eq_true rfl) dX0_order_5 ⟨Nat.le_of_ble_eq_true rfl, Nat.le_of_ble_eq_true rfl⟩) w (fun r3 M2 H locs h w => ?_)
  refine r_bipush X dX0_order_8 (by decide +kernel) ?_
  refine r_imul X dX0_order_10 ?_
  refine lv_aload_n X.1 X.2.1 dX0_order_11 rfl (lv_at hl 0 rfl) ?_
  refine r_getr (N := 6) (T := TX0) X K w iX0_order_0 k_o0 rfl (by decide) 2 (by decide) rfl rfl (List.mem_of_getElem? (i := 2) rfl) dX0_order_12 ?_
  have k4 : gk g (o0 + 3) = 4 := gch hg k_o0 (by decide) 2 (by decide) rfl rfl
  refine lv_iload_n X.1 X.2.1 dX0_order_15 rfl (lv_at hl 1 rfl) ?_
  refine q_i (x_V (As := [cI x1]) (rest := [cI (r3 * 6)]) X K w (c_X4_get hg k4 h) (cwV 1 X.2.2.2.2 gX0_order_X4_get rfl rfl rfl (by decide +kernel) ⟨Nat.le_of_ble_eq_true rfl, Nat.le_of_ble_eq_true rfl⟩) k4 (by decide) rfl rfl hl rfl (Nat.le_of_ble_eq_true rfl) dX0_order_16 ⟨Nat.le_of_ble_eq_true rfl, Nat.le_of_ble_eq_true rfl⟩) w (fun r6 M5 H locs h w => ?_)
  refine r_iadd X dX0_order_19 ?_
  refine r_bipush X dX0_order_20 (by decide +kernel) ?_
  refine r_imul X dX0_order_22 ?_
  refine lv_aload_n X.1 X.2.1 dX0_order_23 rfl (lv_at hl 0 rfl) ?_
  refine r_getr (N := 6) (T := TX0) X K w iX0_order_0 k_o0 rfl (by decide) 3 (by decide) rfl rfl (List.mem_of_getElem? (i := 3) rfl) dX0_order_24 ?_
  have k7 : gk g (o0 + 5) = 4 := gch hg k_o0 (by decide) 3 (by decide) rfl rfl
  refine lv_iload_n X.1 X.2.1 dX0_order_27 rfl (lv_at hl 1 rfl) ?_
  refine q_i (x_V (As := [cI x1]) (rest := [cI (((r3 * 6) + r6) * 10)]) X K w (c_X4_get hg k7 h) (cwV 1 X.2.2.2.2 gX0_order_X4_get rfl rfl rfl (by decide +kernel) ⟨Nat.le_of_ble_eq_true rfl, Nat.le_of_ble_eq_true rfl⟩) k7 (by decide) rfl rfl hl rfl (Nat.le_of_ble_eq_true rfl) dX0_order_28 ⟨Nat.le_of_ble_eq_true rfl, Nat.le_of_ble_eq_true rfl⟩) w (fun r9 M8 H locs h w => ?_)
  refine r_iadd X dX0_order_31 ?_
  exact r_ireturn X hr hlk K w h dX0_order_32
theorem dX4_swap_0 : decode cX4_swap 0 = .ok (.aload_n 0, 1) := by decide +kernel
theorem dX4_swap_1 : decode cX4_swap 1 = .ok (.iload_n 1, 1) := by decide +kernel
theorem dX4_swap_2 : decode cX4_swap 2 = .ok (.invokevirtual 19, 3) := by decide +kernel
theorem dX4_swap_5 : decode cX4_swap 5 = .ok (.istore_n 3, 1) := by decide +kernel
theorem dX4_swap_6 : decode cX4_swap 6 = .ok (.aload_n 0, 1) := by decide +kernel
theorem dX4_swap_7 : decode cX4_swap 7 = .ok (.iload_n 1, 1) := by decide +kernel
theorem dX4_swap_8 : decode cX4_swap 8 = .ok (.aload_n 0, 1) := by decide +kernel
theorem dX4_swap_9 : decode cX4_swap 9 = .ok (.iload_n 2, 1) := by decide +kernel
theorem dX4_swap_10 : decode cX4_swap 10 = .ok (.invokevirtual 19, 3) := by decide +kernel
theorem dX4_swap_13 : decode cX4_swap 13 = .ok (.invokevirtual 23, 3) := by decide +kernel
theorem dX4_swap_16 : decode cX4_swap 16 = .ok (.aload_n 0, 1) := by decide +kernel
theorem dX4_swap_17 : decode cX4_swap 17 = .ok (.iload_n 2, 1) := by decide +kernel
theorem dX4_swap_18 : decode cX4_swap 18 = .ok (.iload_n 3, 1) := by decide +kernel
theorem dX4_swap_19 : decode cX4_swap 19 = .ok (.invokevirtual 23, 3) := by decide +kernel
theorem dX4_swap_22 : decode cX4_swap 22 = .ok (.return_, 1) := by decide +kernel
set_option maxRecDepth 20000 in
theorem ggX4_swap_X4_get : GoodIn wsX4_swap wsX4_get := goodIn_r _ [5, 6, 11] (by decide +kernel) (by decide +kernel)
set_option maxRecDepth 20000 in
theorem gX4_swap_X4_get : GoodIn wsX4_swap (wsV RX4 19 RX4 yX4_get wsX4_get) := goodIn_app (goodIn_of _ (by decide +kernel)) ggX4_swap_X4_get
set_option maxRecDepth 20000 in
theorem ggX4_swap_X4_put : GoodIn wsX4_swap wsX4_put := goodIn_r _ [10, 6, 11] (by decide +kernel) (by decide +kernel)
set_option maxRecDepth 20000 in
theorem gX4_swap_X4_put : GoodIn wsX4_swap (wsV RX4 23 RX4 yX4_put wsX4_put) := goodIn_app (goodIn_of _ (by decide +kernel)) ggX4_swap_X4_put
set_option maxHeartbeats 4000000 in
set_option maxRecDepth 100000 in
theorem c_X4_swap {E : EE} {l : Launch} {g : GG} {ad : Nat → Nat} (hg : gwf g) {o0 : Nat} {x1 : Int} {x2 : Int} {M : Mm} {Q : Mm → Prop} (k_o0 : gk g o0 = 4) (h : p_X4_swap g o0 x1 x2 M Q) : Ct E l yX4_swap wsX4_swap rmX4_swap g ad [.ref (ad o0), cI x1, cI x2] M (QV E g ad Q) := by
  refine ent (cc := cX4_swap) (maxL := 4) (ret := none) (own := RX4) (by decide +kernel) rfl rfl (Nat.le_of_ble_eq_true rfl) ?_
  intro p e s m below meth c ls X hr hlk K w hl
  have hl : lv_has ls 4 [(0, .ref (ad o0)), (1, cI x1), (2, cI x2)] := hl
  unfold p_X4_swap at h
  refine lv_aload_n X.1 X.2.1 dX4_swap_0 rfl (lv_at hl 0 rfl) ?_
  refine lv_iload_n X.1 X.2.1 dX4_swap_1 rfl (lv_at hl 1 rfl) ?_
  refine q_i (x_V (As := [cI x1]) (rest := []) X K w (c_X4_get hg k_o0 h) (cwV 1 X.2.2.2.2 gX4_swap_X4_get rfl rfl rfl (by decide +kernel) ⟨Nat.le_of_ble_eq_true rfl, Nat.le_of_ble_eq_true rfl⟩) k_o0 (by decide) rfl rfl hl rfl (Nat.le_of_ble_eq_true rfl) dX4_swap_2 ⟨Nat.le_of_ble_eq_true rfl, Nat.le_of_ble_eq_true rfl⟩) w (fun r2 M1 H locs h w => ?_)
  refine lv_istore_n (lv' := [(3, cI r2), (0, .ref (ad o0)), (1, cI x1), (2, cI x2)]) X.1 X.2.1 dX4_swap_5 rfl hl (by decide) rfl (fun ls hl => ?_)
  refine lv_aload_n X.1 X.2.1 dX4_swap_6 rfl (lv_at hl 1 rfl) ?_
  refine lv_iload_n X.1 X.2.1 dX4_swap_7 rfl (lv_at hl 2 rfl) ?_
  refine lv_aload_n X.1 X.2.1 dX4_swap_8 rfl (lv_at hl 1 rfl) ?_
  refine lv_iload_n X.1 X.2.1 dX4_swap_9 rfl (lv_at hl 3 rfl) ?_
  refine q_i (x_V (As := [cI x2]) (rest := [cI x1, .ref (ad o0)]) X K w (c_X4_get hg k_o0 h) (cwV 1 X.2.2.2.2 gX4_swap_X4_get rfl rfl rfl (by decide +kernel) ⟨Nat.le_of_ble_eq_true rfl, Nat.le_of_ble_eq_true rfl⟩) k_o0 (by decide) rfl rfl hl rfl (Nat.le_of_ble_eq_true rfl) dX4_swap_10 ⟨Nat.le_of_ble_eq_true rfl, Nat.le_of_ble_eq_true rfl⟩) w (fun r4 M3 H locs h w => ?_)
  refine q_v (x_V (As := [cI x1, cI r4]) (rest := []) X K w (c_X4_put hg k_o0 h) (cwV 2 X.2.2.2.2 gX4_swap_X4_put rfl rfl rfl (by decide +kernel) ⟨Nat.le_of_ble_eq_true rfl, Nat.le_of_ble_eq_true rfl⟩) k_o0 (by decide) rfl rfl hl rfl (Nat.le_of_ble_eq_true rfl) dX4_swap_13 ⟨Nat.le_of_ble_eq_true rfl, Nat.le_of_ble_eq_true rfl⟩) w (fun M5 H locs h w => ?_)
  refine lv_aload_n X.1 X.2.1 dX4_swap_16 rfl (lv_at hl 1 rfl) ?_
  refine lv_iload_n X.1 X.2.1 dX4_swap_17 rfl (lv_at hl 3 rfl) ?_
  refine lv_iload_n X.1 X.2.1 dX4_swap_18 rfl (lv_at hl 0 rfl) ?_
  refine q_v (x_V (As := [cI x2, cI r2]) (rest := []) X K w (c_X4_put hg k_o0 h) (cwV 2 X.2.2.2.2 gX4_swap_X4_put rfl rfl rfl (by decide +kernel) ⟨Nat.le_of_ble_eq_true rfl, Nat.le_of_ble_eq_true rfl⟩) k_o0 (by decide) rfl rfl hl rfl (Nat.le_of_ble_eq_true rfl) dX4_swap_19 ⟨Nat.le_of_ble_eq_true rfl, Nat.le_of_ble_eq_true rfl⟩) w (fun M6 H locs h w => ?_)
  exact r_return X hr hlk K w h dX4_swap_22
theorem dX0_swap_0 : decode cX0_swap 0 = .ok (.aload_n 0, 1) := by decide +kernel
theorem dX0_swap_1 : decode cX0_swap 1 = .ok (.getfield 23, 3) := by decide +kernel
theorem dX0_swap_4 : decode cX0_swap 4 = .ok (.iload_n 1, 1) := by decide +kernel
theorem dX0_swap_5 : decode cX0_swap 5 = .ok (.iload_n 2, 1) := by decide +kernel
theorem dX0_swap_6 : decode cX0_swap 6 = .ok (.invokevirtual 83, 3) := by decide +kernel
theorem dX0_swap_9 : decode cX0_swap 9 = .ok (.aload_n 0, 1) := by decide +kernel
theorem dX0_swap_10 : decode cX0_swap 10 = .ok (.getfield 27, 3) := by decide +kernel
theorem dX0_swap_13 : decode cX0_swap 13 = .ok (.iload_n 1, 1) := by decide +kernel
theorem dX0_swap_14 : decode cX0_swap 14 = .ok (.iload_n 2, 1) := by decide +kernel
theorem dX0_swap_15 : decode cX0_swap 15 = .ok (.invokevirtual 83, 3) := by decide +kernel
theorem dX0_swap_18 : decode cX0_swap 18 = .ok (.aload_n 0, 1) := by decide +kernel
theorem dX0_swap_19 : decode cX0_swap 19 = .ok (.getfield 30, 3) := by decide +kernel
theorem dX0_swap_22 : decode cX0_swap 22 = .ok (.iload_n 1, 1) := by decide +kernel
theorem dX0_swap_23 : decode cX0_swap 23 = .ok (.iload_n 2, 1) := by decide +kernel
theorem dX0_swap_24 : decode cX0_swap 24 = .ok (.invokevirtual 83, 3) := by decide +kernel
theorem dX0_swap_27 : decode cX0_swap 27 = .ok (.aload_n 0, 1) := by decide +kernel
theorem dX0_swap_28 : decode cX0_swap 28 = .ok (.getfield 33, 3) := by decide +kernel
theorem dX0_swap_31 : decode cX0_swap 31 = .ok (.iload_n 1, 1) := by decide +kernel
theorem dX0_swap_32 : decode cX0_swap 32 = .ok (.iload_n 2, 1) := by decide +kernel
theorem dX0_swap_33 : decode cX0_swap 33 = .ok (.invokevirtual 83, 3) := by decide +kernel
theorem dX0_swap_36 : decode cX0_swap 36 = .ok (.return_, 1) := by decide +kernel
set_option maxRecDepth 20000 in
theorem ggX0_swap_X4_swap : GoodIn wsX0_swap wsX4_swap := goodIn_r _ [9, 10, 11, 12, 8, 13, 14, 15, 16, 17, 18, 25] (by decide +kernel) (by decide +kernel)
set_option maxRecDepth 20000 in
theorem gX0_swap_X4_swap : GoodIn wsX0_swap (wsV RX0 83 RX4 yX4_swap wsX4_swap) := goodIn_app (goodIn_of _ (by decide +kernel)) ggX0_swap_X4_swap
theorem iX0_swap_0 : ∀ w ∈ u_ws RX0 TX0 6, w ∈ wsX0_swap := fun w h => List.mem_cons_of_mem _ (List.mem_append_left _ (List.mem_append_right _ (h)))
set_option maxHeartbeats 4000000 in
set_option maxRecDepth 100000 in
theorem c_X0_swap {E : EE} {l : Launch} {g : GG} {ad : Nat → Nat} (hg : gwf g) {o0 : Nat} {x1 : Int} {x2 : Int} {M : Mm} {Q : Mm → Prop} (k_o0 : gk g o0 = 0) (h : p_X0_swap g o0 x1 x2 M Q) : Ct E l yX0_swap wsX0_swap rmX0_swap g ad [.ref (ad o0), cI x1, cI x2] M (QV E g ad Q) := by
  refine ent (cc := cX0_swap) (maxL := 3) (ret := none) (own := RX0) (by decide +kernel) rfl rfl (Nat.le_of_ble_eq_true rfl) ?_
  intro p e s m below meth c ls X hr hlk K w hl
  have hl : lv_has ls 3 [(0, .ref (ad o0)), (1, cI x1), (2, cI x2)] := hl
  unfold p_X0_swap at h
  refine lv_aload_n X.1 X.2.1 dX0_swap_0 rfl (lv_at hl 0 rfl) ?_
  refine r_getr (N := 6) (T := TX0) X K w iX0_swap_0 k_o0 rfl (by decide) 1 (by decide) rfl rfl (List.mem_of_getElem? (i := 1) rfl) dX0_swap_1 ?_
  have k1 : gk g (o0 + 1) = 4 := gch hg k_o0 (by decide) 1 (by decide) rfl rfl
  refine lv_iload_n X.1 X.2.1 dX0_swap_4 rfl (lv_at hl 1 rfl) ?_
  refine lv_iload_n X.1 X.2.1 dX0_swap_5 rfl (lv_at hl 2 rfl) ?_
  refine q_v (x_V (As := [cI x1, cI x2]) (rest := []) X K w (c_X4_swap hg k1 h) (cwV 2 X.2.2.2.2 gX0_swap_X4_swap rfl rfl rfl (by decide +kernel) ⟨Nat.le_of_ble_eq_true rfl, Nat.le_of_ble_eq_true rfl⟩) k1 (by decide) rfl rfl hl rfl (Nat.le_of_ble_eq_true rfl) dX0_swap_6 ⟨Nat.le_of_ble_eq_true rfl, Nat.le_of_ble_eq_true rfl⟩) w (fun M2 H locs h w => ?_)
  refine lv_aload_n X.1 X.2.1 dX0_swap_9 rfl (lv_at hl 0 rfl) ?_
  refine r_getr (N := 6) (T := TX0) X K w iX0_swap_0 k_o0 rfl (by decide) 2 (by decide) rfl rfl (List.mem_of_getElem? (i := 2) rfl) dX0_swap_10 ?_
  have k3 : gk g (o0 + 3) = 4 := gch hg k_o0 (by decide) 2 (by decide) rfl rfl
  refine lv_iload_n X.1 X.2.1 dX0_swap_13 rfl (lv_at hl 1 rfl) ?_
  refine lv_iload_n X.1 X.2.1 dX0_swap_14 rfl (lv_at hl 2 rfl) ?_
  refine q_v (x_V (As := [cI x1, cI x2]) (rest := []) X K w (c_X4_swap hg k3 h) (cwV 2 X.2.2.2.2 gX0_swap_X4_swap rfl rfl rfl (by decide +kernel) ⟨Nat.le_of_ble_eq_true rfl, Nat.le_of_ble_eq_true rfl⟩) k3 (by decide) rfl rfl hl rfl (Nat.le_of_ble_eq_true rfl) dX0_swap_15 ⟨Nat.le_of_ble_eq_true rfl, Nat.le_of_ble_eq_true rfl⟩) w (fun M4 H locs h w => ?_)
  refine lv_aload_n X.1 X.2.1 dX0_swap_18 rfl (lv_at hl 0 rfl) ?_
  refine r_getr (N := 6) (T := TX0) X K w iX0_swap_0 k_o0 rfl (by decide) 3 (by decide) rfl rfl (List.mem_of_getElem? (i := 3) rfl) dX0_swap_19 ?_
  have k5 : gk g (o0 + 5) = 4 := gch hg k_o0 (by decide) 3 (by decide) rfl rfl
  refine lv_iload_n X.1 X.2.1 dX0_swap_22 rfl (lv_at hl 1 rfl) ?_
  refine lv_iload_n X.1 X.2.1 dX0_swap_23 rfl (lv_at hl 2 rfl) ?_
  refine q_v (x_V (As := [cI x1, cI x2]) (rest := []) X K w (c_X4_swap hg k5 h) (cwV 2 X.2.2.2.2 gX0_swap_X4_swap rfl rfl rfl (by decide +kernel) ⟨Nat.le_of_ble_eq_true rfl, Nat.le_of_ble_eq_true rfl⟩) k5 (by decide) rfl rfl hl rfl (Nat.le_of_ble_eq_true rfl) dX0_swap_24 ⟨Nat.le_of_ble_eq_true rfl, Nat.le_of_ble_eq_true rfl⟩) w (fun M6 H locs h w => ?_)
  refine lv_aload_n X.1 X.2.1 dX0_swap_27 rfl (lv_at hl 0 rfl) ?_
  refine r_getr (N := 6) (T := TX0) X K w iX0_swap_0 k_o0 rfl (by decide) 4 (by decide) rfl rfl (List.mem_of_getElem? (i := 4) rfl) dX0_swap_28 ?_
  have k7 : gk g (o0 + 7) = 4 := gch hg k_o0 (by decide) 4 (by decide) rfl rfl
  refine lv_iload_n X.1 X.2.1 dX0_swap_31 rfl (lv_at hl 1 rfl) ?_
  refine lv_iload_n X.1 X.2.1 dX0_swap_32 rfl (lv_at hl 2 rfl) ?_
  refine q_v (x_V (As := [cI x1, cI x2]) (rest := []) X K w (c_X4_swap hg k7 h) (cwV 2 X.2.2.2.2 gX0_swap_X4_swap rfl rfl rfl (by decide +kernel) ⟨Nat.le_of_ble_eq_true rfl, Nat.le_of_ble_eq_true rfl⟩) k7 (by decide) rfl rfl hl rfl (Nat.le_of_ble_eq_true rfl) dX0_swap_33 ⟨Nat.le_of_ble_eq_true rfl, Nat.le_of_ble_eq_true rfl⟩) w (fun M8 H locs h w => ?_)
  exact r_return X hr hlk K w h dX0_swap_36
theorem dX0_moveToItsPlace_0 : decode cX0_moveToItsPlace 0 = .ok (.iload_n 1, 1) := by decide +kernel
theorem dX0_moveToItsPlace_1 : decode cX0_moveToItsPlace 1 = .ok (.istore_n 2, 1) := by decide +kernel
theorem dX0_moveToItsPlace_2 : decode cX0_moveToItsPlace 2 = .ok (.iload_n 2, 1) := by decide +kernel
theorem dX0_moveToItsPlace_3 : decode cX0_moveToItsPlace 3 = .ok (.ifCond .le 32, 3) := by decide +kernel
theorem dX0_moveToItsPlace_6 : decode cX0_moveToItsPlace 6 = .ok (.aload_n 0, 1) := by decide +kernel
theorem dX0_moveToItsPlace_7 : decode cX0_moveToItsPlace 7 = .ok (.iload_n 2, 1) := by decide +kernel
theorem dX0_moveToItsPlace_8 : decode cX0_moveToItsPlace 8 = .ok (.invokevirtual 80, 3) := by decide +kernel
theorem dX0_moveToItsPlace_11 : decode cX0_moveToItsPlace 11 = .ok (.aload_n 0, 1) := by decide +kernel
theorem dX0_moveToItsPlace_12 : decode cX0_moveToItsPlace 12 = .ok (.iload_n 2, 1) := by decide +kernel
theorem dX0_moveToItsPlace_13 : decode cX0_moveToItsPlace 13 = .ok (.iconst 1, 1) := by decide +kernel
theorem dX0_moveToItsPlace_14 : decode cX0_moveToItsPlace 14 = .ok (.isub, 1) := by decide +kernel
theorem dX0_moveToItsPlace_15 : decode cX0_moveToItsPlace 15 = .ok (.invokevirtual 80, 3) := by decide +kernel
theorem dX0_moveToItsPlace_18 : decode cX0_moveToItsPlace 18 = .ok (.if_icmp .ge 17, 3) := by decide +kernel
theorem dX0_moveToItsPlace_21 : decode cX0_moveToItsPlace 21 = .ok (.aload_n 0, 1) := by decide +kernel
theorem dX0_moveToItsPlace_22 : decode cX0_moveToItsPlace 22 = .ok (.iload_n 2, 1) := by decide +kernel
theorem dX0_moveToItsPlace_23 : decode cX0_moveToItsPlace 23 = .ok (.iconst 1, 1) := by decide +kernel
theorem dX0_moveToItsPlace_24 : decode cX0_moveToItsPlace 24 = .ok (.isub, 1) := by decide +kernel
theorem dX0_moveToItsPlace_25 : decode cX0_moveToItsPlace 25 = .ok (.iload_n 2, 1) := by decide +kernel
theorem dX0_moveToItsPlace_26 : decode cX0_moveToItsPlace 26 = .ok (.invokevirtual 57, 3) := by decide +kernel
theorem dX0_moveToItsPlace_29 : decode cX0_moveToItsPlace 29 = .ok (.iinc 2 (-1), 3) := by decide +kernel
theorem dX0_moveToItsPlace_32 : decode cX0_moveToItsPlace 32 = .ok (.goto (-30), 3) := by decide +kernel
theorem dX0_moveToItsPlace_35 : decode cX0_moveToItsPlace 35 = .ok (.return_, 1) := by decide +kernel
set_option maxRecDepth 20000 in
theorem ggX0_moveToItsPlace_X0_order : GoodIn wsX0_moveToItsPlace wsX0_order := goodIn_r _ [5, 6, 7, 8, 9, 10, 11, 12, 13, 14, 29, 30, 31, 32, 33, 34, 35] (by decide +kernel) (by decide +kernel)
set_option maxRecDepth 20000 in
theorem gX0_moveToItsPlace_X0_order : GoodIn wsX0_moveToItsPlace (wsV RX0 80 RX0 yX0_order wsX0_order) := goodIn_app (goodIn_of _ (by decide +kernel)) ggX0_moveToItsPlace_X0_order
set_option maxRecDepth 20000 in
theorem ggX0_moveToItsPlace_X0_swap : GoodIn wsX0_moveToItsPlace wsX0_swap := goodIn_r _ [18, 6, 7, 8, 19, 20, 21, 22, 12, 23, 24, 10, 11, 13, 14, 25, 26, 27, 28, 29, 30, 31, 32, 33, 34, 35] (by decide +kernel) (by decide +kernel)
set_option maxRecDepth 20000 in
theorem gX0_moveToItsPlace_X0_swap : GoodIn wsX0_moveToItsPlace (wsV RX0 57 RX0 yX0_swap wsX0_swap) := goodIn_app (goodIn_of _ (by decide +kernel)) ggX0_moveToItsPlace_X0_swap
set_option maxHeartbeats 4000000 in
set_option maxRecDepth 100000 in
theorem w_X0_moveToItsPlace_L2 {p : Program} {l : Launch} {e : Env} {s : State} {m : MethodId} {args : Array Value} {below : List Frame} {meth : Method} {c : Code} {E : EE} {g : GG} {ad : Nat → Nat} (hg : gwf g) (X : CallFix p m c cX0_moveToItsPlace 3 s args wsX0_moveToItsPlace RX0) (K : Kn E s) (hr : meth.sig.returnType = none) (hlk : meth.locks = false) {Q : Mm → Prop} : ∀ (n : Nat) (o0 : Nat) (x2 : Int) (M : Mm) (H : Heap) (locs : List Loc) (ls : Array Slot), gk g o0 = 0 → Rw E g ad M s.heap H locs → lv_has ls 3 [(0, .ref (ad o0)), (2, cI x2)] → p_X0_moveToItsPlace_L2 g n o0 x2 M Q → W p l e rmX0_moveToItsPlace s m args below meth c H locs 0 0 (MQ below (QV E g ad Q) args s 0 0 (Rg g ad)) (F0 m 2 ls []) := by
  intro n
  induction n with
  | zero =>
    intro o0 x2 M H locs ls k_o0 w hl h
    exact absurd h (by unfold p_X0_moveToItsPlace_L2; exact id)
  | succ n ih =>
    intro o0 x2 M H locs ls k_o0 w hl h
    unfold p_X0_moveToItsPlace_L2 at h
    refine lv_iload_n X.1 X.2.1 dX0_moveToItsPlace_2 rfl (lv_at hl 1 rfl) ?_
    obtain ⟨i0, h1, h2⟩ := h
    refine r_if_le (tgt := 35) X i0 dX0_moveToItsPlace_3 (by decide) (fun cc => ?_) (fun cc => ?_)
    · have h := h1 cc
      exact r_return X hr hlk K w h dX0_moveToItsPlace_35
    · have h := h2 cc
      refine lv_aload_n X.1 X.2.1 dX0_moveToItsPlace_6 rfl (lv_at hl 0 rfl) ?_
      refine lv_iload_n X.1 X.2.1 dX0_moveToItsPlace_7 rfl (lv_at hl 1 rfl) ?_
      refine q_i (x_V (As := [cI x2]) (rest := []) X K w (c_X0_order hg k_o0 h) (cwV 1 X.2.2.2.2 gX0_moveToItsPlace_X0_order rfl rfl rfl (by decide +kernel) ⟨Nat.le_of_ble_eq_true rfl, Nat.le_of_ble_eq_true rfl⟩) k_o0 (by decide) rfl rfl hl rfl (Nat.le_of_ble_eq_true rfl) dX0_moveToItsPlace_8 ⟨Nat.le_of_ble_eq_true rfl, Nat.le_of_ble_eq_true rfl⟩) w (fun r2 M1 H locs h w => ?_)
      refine lv_aload_n X.1 X.2.1 dX0_moveToItsPlace_11 rfl (lv_at hl 0 rfl) ?_
      refine lv_iload_n X.1 X.2.1 dX0_moveToItsPlace_12 rfl (lv_at hl 1 rfl) ?_
      refine r_iconst X dX0_moveToItsPlace_13 ?_
      refine r_isub X dX0_moveToItsPlace_14 ?_
      refine q_i (x_V (As := [cI (x2 - 1)]) (rest := [cI r2]) X K w (c_X0_order hg k_o0 h) (cwV 1 X.2.2.2.2 gX0_moveToItsPlace_X0_order rfl rfl rfl (by decide +kernel) ⟨Nat.le_of_ble_eq_true rfl, Nat.le_of_ble_eq_true rfl⟩) k_o0 (by decide) rfl rfl hl rfl (Nat.le_of_ble_eq_true rfl) dX0_moveToItsPlace_15 ⟨Nat.le_of_ble_eq_true rfl, Nat.le_of_ble_eq_true rfl⟩) w (fun r4 M3 H locs h w => ?_)
      obtain ⟨i0, i1, h1, h2⟩ := h
      refine r_icmp_ge (tgt := 35) X i0 i1 dX0_moveToItsPlace_18 (by decide) (fun cc => ?_) (fun cc => ?_)
      · have h := h1 cc
        exact r_return X hr hlk K w h dX0_moveToItsPlace_35
      · have h := h2 cc
        refine lv_aload_n X.1 X.2.1 dX0_moveToItsPlace_21 rfl (lv_at hl 0 rfl) ?_
        refine lv_iload_n X.1 X.2.1 dX0_moveToItsPlace_22 rfl (lv_at hl 1 rfl) ?_
        refine r_iconst X dX0_moveToItsPlace_23 ?_
        refine r_isub X dX0_moveToItsPlace_24 ?_
        refine lv_iload_n X.1 X.2.1 dX0_moveToItsPlace_25 rfl (lv_at hl 1 rfl) ?_
        refine q_v (x_V (As := [cI (x2 - 1), cI x2]) (rest := []) X K w (c_X0_swap hg k_o0 h) (cwV 2 X.2.2.2.2 gX0_moveToItsPlace_X0_swap rfl rfl rfl (by decide +kernel) ⟨Nat.le_of_ble_eq_true rfl, Nat.le_of_ble_eq_true rfl⟩) k_o0 (by decide) rfl rfl hl rfl (Nat.le_of_ble_eq_true rfl) dX0_moveToItsPlace_26 ⟨Nat.le_of_ble_eq_true rfl, Nat.le_of_ble_eq_true rfl⟩) w (fun M5 H locs h w => ?_)
        refine r_iinc (lv' := [(2, cI (x2 + (-1))), (0, .ref (ad o0))]) X hl (k := 1) rfl (by decide) dX0_moveToItsPlace_29 rfl (fun ls hl => ?_)
        refine lv_goto (tgt := 2) X.1 X.2.1 dX0_moveToItsPlace_32 (by decide) ?_
        exact ih o0 (x2 + (-1)) M5 _ _ _ k_o0 w (lv_sub hl [1, 0] rfl) h
set_option maxHeartbeats 4000000 in
set_option maxRecDepth 100000 in
theorem c_X0_moveToItsPlace {E : EE} {l : Launch} {g : GG} {ad : Nat → Nat} (hg : gwf g) {o0 : Nat} {x1 : Int} {M : Mm} {Q : Mm → Prop} (k_o0 : gk g o0 = 0) (h : p_X0_moveToItsPlace g o0 x1 M Q) : Ct E l yX0_moveToItsPlace wsX0_moveToItsPlace rmX0_moveToItsPlace g ad [.ref (ad o0), cI x1] M (QV E g ad Q) := by
  refine ent (cc := cX0_moveToItsPlace) (maxL := 3) (ret := none) (own := RX0) (by decide +kernel) rfl rfl (Nat.le_of_ble_eq_true rfl) ?_
  intro p e s m below meth c ls X hr hlk K w hl
  have hl : lv_has ls 3 [(0, .ref (ad o0)), (1, cI x1)] := hl
  unfold p_X0_moveToItsPlace at h
  refine lv_iload_n X.1 X.2.1 dX0_moveToItsPlace_0 rfl (lv_at hl 1 rfl) ?_
  refine lv_istore_n (lv' := [(2, cI x1), (0, .ref (ad o0)), (1, cI x1)]) X.1 X.2.1 dX0_moveToItsPlace_1 rfl hl (by decide) rfl (fun ls hl => ?_)
  obtain ⟨n6, h⟩ := h
  exact w_X0_moveToItsPlace_L2 hg X K hr hlk n6 o0 x1 M _ _ _ k_o0 w (lv_sub hl [1, 0] rfl) h
theorem dX0_putInOrder_0 : decode cX0_putInOrder 0 = .ok (.iconst 1, 1) := by decide +kernel
theorem dX0_putInOrder_1 : decode cX0_putInOrder 1 = .ok (.istore_n 1, 1) := by decide +kernel
theorem dX0_putInOrder_2 : decode cX0_putInOrder 2 = .ok (.iload_n 1, 1) := by decide +kernel
theorem dX0_putInOrder_3 : decode cX0_putInOrder 3 = .ok (.aload_n 0, 1) := by decide +kernel
theorem dX0_putInOrder_4 : decode cX0_putInOrder 4 = .ok (.getfield 9, 3) := by decide +kernel
theorem dX0_putInOrder_7 : decode cX0_putInOrder 7 = .ok (.if_icmp .ge 14, 3) := by decide +kernel
theorem dX0_putInOrder_10 : decode cX0_putInOrder 10 = .ok (.aload_n 0, 1) := by decide +kernel
theorem dX0_putInOrder_11 : decode cX0_putInOrder 11 = .ok (.iload_n 1, 1) := by decide +kernel
theorem dX0_putInOrder_12 : decode cX0_putInOrder 12 = .ok (.invokevirtual 54, 3) := by decide +kernel
theorem dX0_putInOrder_15 : decode cX0_putInOrder 15 = .ok (.iinc 1 1, 3) := by decide +kernel
theorem dX0_putInOrder_18 : decode cX0_putInOrder 18 = .ok (.goto (-16), 3) := by decide +kernel
theorem dX0_putInOrder_21 : decode cX0_putInOrder 21 = .ok (.return_, 1) := by decide +kernel
set_option maxRecDepth 20000 in
theorem ggX0_putInOrder_X0_moveToItsPlace : GoodIn wsX0_putInOrder wsX0_moveToItsPlace := goodIn_r _ [6, 7, 8, 9, 5, 10, 11, 12, 13, 14, 15, 16, 17, 18, 19, 20, 21, 22, 23, 24, 25, 26, 27, 28, 29, 30, 31, 32, 33, 34, 35, 36, 37, 38, 39, 40] (by decide +kernel) (by decide +kernel)
set_option maxRecDepth 20000 in
theorem gX0_putInOrder_X0_moveToItsPlace : GoodIn wsX0_putInOrder (wsV RX0 54 RX0 yX0_moveToItsPlace wsX0_moveToItsPlace) := goodIn_app (goodIn_of _ (by decide +kernel)) ggX0_putInOrder_X0_moveToItsPlace
theorem iX0_putInOrder_0 : ∀ w ∈ u_ws RX0 TX0 6, w ∈ wsX0_putInOrder := fun w h => List.mem_cons_of_mem _ (List.mem_append_left _ (List.mem_append_right _ (h)))
set_option maxHeartbeats 4000000 in
set_option maxRecDepth 100000 in
theorem w_X0_putInOrder_L2 {p : Program} {l : Launch} {e : Env} {s : State} {m : MethodId} {args : Array Value} {below : List Frame} {meth : Method} {c : Code} {E : EE} {g : GG} {ad : Nat → Nat} (hg : gwf g) (X : CallFix p m c cX0_putInOrder 2 s args wsX0_putInOrder RX0) (K : Kn E s) (hr : meth.sig.returnType = none) (hlk : meth.locks = false) {Q : Mm → Prop} : ∀ (n : Nat) (o0 : Nat) (x1 : Int) (M : Mm) (H : Heap) (locs : List Loc) (ls : Array Slot), gk g o0 = 0 → Rw E g ad M s.heap H locs → lv_has ls 2 [(0, .ref (ad o0)), (1, cI x1)] → p_X0_putInOrder_L2 g n o0 x1 M Q → W p l e rmX0_putInOrder s m args below meth c H locs 0 0 (MQ below (QV E g ad Q) args s 0 0 (Rg g ad)) (F0 m 2 ls []) := by
  intro n
  induction n with
  | zero =>
    intro o0 x1 M H locs ls k_o0 w hl h
    exact absurd h (by unfold p_X0_putInOrder_L2; exact id)
  | succ n ih =>
    intro o0 x1 M H locs ls k_o0 w hl h
    unfold p_X0_putInOrder_L2 at h
    refine lv_iload_n X.1 X.2.1 dX0_putInOrder_2 rfl (lv_at hl 1 rfl) ?_
    refine lv_aload_n X.1 X.2.1 dX0_putInOrder_3 rfl (lv_at hl 0 rfl) ?_
    refine r_geti (N := 6) (T := TX0) (kz := 5) X K w iX0_putInOrder_0 k_o0 rfl (by decide) 5 (by decide) rfl rfl rfl (List.mem_of_getElem? (i := 1) rfl) dX0_putInOrder_4 ?_
    obtain ⟨i0, i1, h1, h2⟩ := h
    refine r_icmp_ge (tgt := 21) X i0 i1 dX0_putInOrder_7 (by decide) (fun cc => ?_) (fun cc => ?_)
    · have h := h1 cc
      exact r_return X hr hlk K w h dX0_putInOrder_21
    · have h := h2 cc
      refine lv_aload_n X.1 X.2.1 dX0_putInOrder_10 rfl (lv_at hl 0 rfl) ?_
      refine lv_iload_n X.1 X.2.1 dX0_putInOrder_11 rfl (lv_at hl 1 rfl) ?_
      refine q_v (x_V (As := [cI x1]) (rest := []) X K w (c_X0_moveToItsPlace hg k_o0 h) (cwV 1 X.2.2.2.2 gX0_putInOrder_X0_moveToItsPlace rfl rfl rfl (by decide +kernel) ⟨Nat.le_of_ble_eq_true rfl, Nat.le_of_ble_eq_true rfl⟩) k_o0 (by decide) rfl rfl hl rfl (Nat.le_of_ble_eq_true rfl) dX0_putInOrder_12 ⟨Nat.le_of_ble_eq_true rfl, Nat.le_of_ble_eq_true rfl⟩) w (fun M1 H locs h w => ?_)
      refine r_iinc (lv' := [(1, cI (x1 + 1)), (0, .ref (ad o0))]) X hl (k := 1) rfl (by decide) dX0_putInOrder_15 rfl (fun ls hl => ?_)
      refine lv_goto (tgt := 2) X.1 X.2.1 dX0_putInOrder_18 (by decide) ?_
      exact ih o0 (x1 + 1) M1 _ _ _ k_o0 w (lv_sub hl [1, 0] rfl) h
set_option maxHeartbeats 4000000 in
set_option maxRecDepth 100000 in
theorem c_X0_putInOrder {E : EE} {l : Launch} {g : GG} {ad : Nat → Nat} (hg : gwf g) {o0 : Nat} {M : Mm} {Q : Mm → Prop} (k_o0 : gk g o0 = 0) (h : p_X0_putInOrder g o0 M Q) : Ct E l yX0_putInOrder wsX0_putInOrder rmX0_putInOrder g ad [.ref (ad o0)] M (QV E g ad Q) := by
  refine ent (cc := cX0_putInOrder) (maxL := 2) (ret := none) (own := RX0) (by decide +kernel) rfl rfl (Nat.le_of_ble_eq_true rfl) ?_
  intro p e s m below meth c ls X hr hlk K w hl
  have hl : lv_has ls 2 [(0, .ref (ad o0))] := hl
  unfold p_X0_putInOrder at h
  refine r_iconst X dX0_putInOrder_0 ?_
  refine lv_istore_n (lv' := [(1, cI 1), (0, .ref (ad o0))]) X.1 X.2.1 dX0_putInOrder_1 rfl hl (by decide) rfl (fun ls hl => ?_)
  obtain ⟨n2, h⟩ := h
  exact w_X0_putInOrder_L2 hg X K hr hlk n2 o0 1 M _ _ _ k_o0 w (lv_sub hl [1, 0] rfl) h
theorem dX0_removeAt_0 : decode cX0_removeAt 0 = .ok (.iload_n 1, 1) := by decide +kernel
theorem dX0_removeAt_1 : decode cX0_removeAt 1 = .ok (.iconst 1, 1) := by decide +kernel
theorem dX0_removeAt_2 : decode cX0_removeAt 2 = .ok (.iadd, 1) := by decide +kernel
theorem dX0_removeAt_3 : decode cX0_removeAt 3 = .ok (.istore_n 2, 1) := by decide +kernel
theorem dX0_removeAt_4 : decode cX0_removeAt 4 = .ok (.iload_n 2, 1) := by decide +kernel
theorem dX0_removeAt_5 : decode cX0_removeAt 5 = .ok (.aload_n 0, 1) := by decide +kernel
theorem dX0_removeAt_6 : decode cX0_removeAt 6 = .ok (.getfield 9, 3) := by decide +kernel
theorem dX0_removeAt_9 : decode cX0_removeAt 9 = .ok (.if_icmp .ge 17, 3) := by decide +kernel
theorem dX0_removeAt_12 : decode cX0_removeAt 12 = .ok (.aload_n 0, 1) := by decide +kernel
theorem dX0_removeAt_13 : decode cX0_removeAt 13 = .ok (.iload_n 2, 1) := by decide +kernel
theorem dX0_removeAt_14 : decode cX0_removeAt 14 = .ok (.iconst 1, 1) := by decide +kernel
theorem dX0_removeAt_15 : decode cX0_removeAt 15 = .ok (.isub, 1) := by decide +kernel
theorem dX0_removeAt_16 : decode cX0_removeAt 16 = .ok (.iload_n 2, 1) := by decide +kernel
theorem dX0_removeAt_17 : decode cX0_removeAt 17 = .ok (.invokevirtual 57, 3) := by decide +kernel
theorem dX0_removeAt_20 : decode cX0_removeAt 20 = .ok (.iinc 2 1, 3) := by decide +kernel
theorem dX0_removeAt_23 : decode cX0_removeAt 23 = .ok (.goto (-19), 3) := by decide +kernel
theorem dX0_removeAt_26 : decode cX0_removeAt 26 = .ok (.aload_n 0, 1) := by decide +kernel
theorem dX0_removeAt_27 : decode cX0_removeAt 27 = .ok (.dup, 1) := by decide +kernel
theorem dX0_removeAt_28 : decode cX0_removeAt 28 = .ok (.getfield 9, 3) := by decide +kernel
theorem dX0_removeAt_31 : decode cX0_removeAt 31 = .ok (.iconst 1, 1) := by decide +kernel
theorem dX0_removeAt_32 : decode cX0_removeAt 32 = .ok (.isub, 1) := by decide +kernel
theorem dX0_removeAt_33 : decode cX0_removeAt 33 = .ok (.putfield 9, 3) := by decide +kernel
theorem dX0_removeAt_36 : decode cX0_removeAt 36 = .ok (.return_, 1) := by decide +kernel
set_option maxRecDepth 20000 in
theorem ggX0_removeAt_X0_swap : GoodIn wsX0_removeAt wsX0_swap := goodIn_r _ [6, 7, 8, 9, 10, 11, 12, 13, 14, 15, 16, 17, 18, 19, 20, 21, 22, 23, 24, 25, 26, 27, 28, 29, 30, 31] (by decide +kernel) (by decide +kernel)
set_option maxRecDepth 20000 in
theorem gX0_removeAt_X0_swap : GoodIn wsX0_removeAt (wsV RX0 57 RX0 yX0_swap wsX0_swap) := goodIn_app (goodIn_of _ (by decide +kernel)) ggX0_removeAt_X0_swap
theorem iX0_removeAt_0 : ∀ w ∈ u_ws RX0 TX0 6, w ∈ wsX0_removeAt := fun w h => List.mem_cons_of_mem _ (List.mem_append_left _ (List.mem_append_right _ (h)))
set_option maxHeartbeats 4000000 in
set_option maxRecDepth 100000 in
theorem w_X0_removeAt_L4 {p : Program} {l : Launch} {e : Env} {s : State} {m : MethodId} {args : Array Value} {below : List Frame} {meth : Method} {c : Code} {E : EE} {g : GG} {ad : Nat → Nat} (hg : gwf g) (X : CallFix p m c cX0_removeAt 3 s args wsX0_removeAt RX0) (K : Kn E s) (hr : meth.sig.returnType = none) (hlk : meth.locks = false) {Q : Mm → Prop} : ∀ (n : Nat) (o0 : Nat) (x2 : Int) (M : Mm) (H : Heap) (locs : List Loc) (ls : Array Slot), gk g o0 = 0 → Rw E g ad M s.heap H locs → lv_has ls 3 [(0, .ref (ad o0)), (2, cI x2)] → p_X0_removeAt_L4 g n o0 x2 M Q → W p l e rmX0_removeAt s m args below meth c H locs 0 0 (MQ below (QV E g ad Q) args s 0 0 (Rg g ad)) (F0 m 4 ls []) := by
  intro n
  induction n with
  | zero =>
    intro o0 x2 M H locs ls k_o0 w hl h
    exact absurd h (by unfold p_X0_removeAt_L4; exact id)
  | succ n ih =>
    intro o0 x2 M H locs ls k_o0 w hl h
    unfold p_X0_removeAt_L4 at h
    refine lv_iload_n X.1 X.2.1 dX0_removeAt_4 rfl (lv_at hl 1 rfl) ?_
    refine lv_aload_n X.1 X.2.1 dX0_removeAt_5 rfl (lv_at hl 0 rfl) ?_
    refine r_geti (N := 6) (T := TX0) (kz := 5) X K w iX0_removeAt_0 k_o0 rfl (by decide) 5 (by decide) rfl rfl rfl (List.mem_of_getElem? (i := 1) rfl) dX0_removeAt_6 ?_
    obtain ⟨i0, i1, h1, h2⟩ := h
    refine r_icmp_ge (tgt := 26) X i0 i1 dX0_removeAt_9 (by decide) (fun cc => ?_) (fun cc => ?_)
    · have h := h1 cc
      refine lv_aload_n X.1 X.2.1 dX0_removeAt_26 rfl (lv_at hl 0 rfl) ?_
      refine lv_dup X.1 X.2.1 dX0_removeAt_27 rfl ?_
      refine r_geti (N := 6) (T := TX0) (kz := 5) X K w iX0_removeAt_0 k_o0 rfl (by decide) 5 (by decide) rfl rfl rfl (List.mem_of_getElem? (i := 1) rfl) dX0_removeAt_28 ?_
      refine r_iconst X dX0_removeAt_31 ?_
      refine r_isub X dX0_removeAt_32 ?_
      refine r_puti (N := 6) (T := TX0) (kz := 5) (ty := .int) X K w iX0_removeAt_0 tyX0 tyX0_ok nmX0 k_o0 rfl (by decide) 5 (by decide) rfl rfl rfl rfl (by decide +kernel) rfl rfl (List.mem_of_getElem? (i := 1) rfl) dX0_removeAt_33 (fun M1 H locs e w => ?_)
      replace h := h M1 e
      exact r_return X hr hlk K w h dX0_removeAt_36
    · have h := h2 cc
      refine lv_aload_n X.1 X.2.1 dX0_removeAt_12 rfl (lv_at hl 0 rfl) ?_
      refine lv_iload_n X.1 X.2.1 dX0_removeAt_13 rfl (lv_at hl 1 rfl) ?_
      refine r_iconst X dX0_removeAt_14 ?_
      refine r_isub X dX0_removeAt_15 ?_
      refine lv_iload_n X.1 X.2.1 dX0_removeAt_16 rfl (lv_at hl 1 rfl) ?_
      refine q_v (x_V (As := [cI (x2 - 1), cI x2]) (rest := []) X K w (c_X0_swap hg k_o0 h) (cwV 2 X.2.2.2.2 gX0_removeAt_X0_swap rfl rfl rfl (by decide +kernel) ⟨Nat.le_of_ble_eq_true rfl, Nat.le_of_ble_eq_true rfl⟩) k_o0 (by decide) rfl rfl hl rfl (Nat.le_of_ble_eq_true rfl) dX0_removeAt_17 ⟨Nat.le_of_ble_eq_true rfl, Nat.le_of_ble_eq_true rfl⟩) w (fun M2 H locs h w => ?_)
      refine r_iinc (lv' := [(2, cI (x2 + 1)), (0, .ref (ad o0))]) X hl (k := 1) rfl (by decide) dX0_removeAt_20 rfl (fun ls hl => ?_)
      refine lv_goto (tgt := 4) X.1 X.2.1 dX0_removeAt_23 (by decide) ?_
      exact ih o0 (x2 + 1) M2 _ _ _ k_o0 w (lv_sub hl [1, 0] rfl) h
set_option maxHeartbeats 4000000 in
set_option maxRecDepth 100000 in
theorem c_X0_removeAt {E : EE} {l : Launch} {g : GG} {ad : Nat → Nat} (hg : gwf g) {o0 : Nat} {x1 : Int} {M : Mm} {Q : Mm → Prop} (k_o0 : gk g o0 = 0) (h : p_X0_removeAt g o0 x1 M Q) : Ct E l yX0_removeAt wsX0_removeAt rmX0_removeAt g ad [.ref (ad o0), cI x1] M (QV E g ad Q) := by
  refine ent (cc := cX0_removeAt) (maxL := 3) (ret := none) (own := RX0) (by decide +kernel) rfl rfl (Nat.le_of_ble_eq_true rfl) ?_
  intro p e s m below meth c ls X hr hlk K w hl
  have hl : lv_has ls 3 [(0, .ref (ad o0)), (1, cI x1)] := hl
  unfold p_X0_removeAt at h
  refine lv_iload_n X.1 X.2.1 dX0_removeAt_0 rfl (lv_at hl 1 rfl) ?_
  refine r_iconst X dX0_removeAt_1 ?_
  refine r_iadd X dX0_removeAt_2 ?_
  refine lv_istore_n (lv' := [(2, cI (x1 + 1)), (0, .ref (ad o0)), (1, cI x1)]) X.1 X.2.1 dX0_removeAt_3 rfl hl (by decide) rfl (fun ls hl => ?_)
  obtain ⟨n3, h⟩ := h
  exact w_X0_removeAt_L4 hg X K hr hlk n3 o0 (x1 + 1) M _ _ _ k_o0 w (lv_sub hl [1, 0] rfl) h
theorem dX0_removeScene_0 : decode cX0_removeScene 0 = .ok (.iconst 0, 1) := by decide +kernel
theorem dX0_removeScene_1 : decode cX0_removeScene 1 = .ok (.istore_n 2, 1) := by decide +kernel
theorem dX0_removeScene_2 : decode cX0_removeScene 2 = .ok (.iconst 0, 1) := by decide +kernel
theorem dX0_removeScene_3 : decode cX0_removeScene 3 = .ok (.istore_n 3, 1) := by decide +kernel
theorem dX0_removeScene_4 : decode cX0_removeScene 4 = .ok (.iload_n 3, 1) := by decide +kernel
theorem dX0_removeScene_5 : decode cX0_removeScene 5 = .ok (.aload_n 0, 1) := by decide +kernel
theorem dX0_removeScene_6 : decode cX0_removeScene 6 = .ok (.getfield 9, 3) := by decide +kernel
theorem dX0_removeScene_9 : decode cX0_removeScene 9 = .ok (.if_icmp .ge 30, 3) := by decide +kernel
theorem dX0_removeScene_12 : decode cX0_removeScene 12 = .ok (.aload_n 0, 1) := by decide +kernel
theorem dX0_removeScene_13 : decode cX0_removeScene 13 = .ok (.getfield 27, 3) := by decide +kernel
theorem dX0_removeScene_16 : decode cX0_removeScene 16 = .ok (.iload_n 3, 1) := by decide +kernel
theorem dX0_removeScene_17 : decode cX0_removeScene 17 = .ok (.invokevirtual 46, 3) := by decide +kernel
theorem dX0_removeScene_20 : decode cX0_removeScene 20 = .ok (.iload_n 1, 1) := by decide +kernel
theorem dX0_removeScene_21 : decode cX0_removeScene 21 = .ok (.if_icmp .eq 12, 3) := by decide +kernel
theorem dX0_removeScene_24 : decode cX0_removeScene 24 = .ok (.aload_n 0, 1) := by decide +kernel
theorem dX0_removeScene_25 : decode cX0_removeScene 25 = .ok (.iload_n 2, 1) := by decide +kernel
theorem dX0_removeScene_26 : decode cX0_removeScene 26 = .ok (.iload_n 3, 1) := by decide +kernel
theorem dX0_removeScene_27 : decode cX0_removeScene 27 = .ok (.invokevirtual 57, 3) := by decide +kernel
theorem dX0_removeScene_30 : decode cX0_removeScene 30 = .ok (.iinc 2 1, 3) := by decide +kernel
theorem dX0_removeScene_33 : decode cX0_removeScene 33 = .ok (.iinc 3 1, 3) := by decide +kernel
theorem dX0_removeScene_36 : decode cX0_removeScene 36 = .ok (.goto (-32), 3) := by decide +kernel
theorem dX0_removeScene_39 : decode cX0_removeScene 39 = .ok (.aload_n 0, 1) := by decide +kernel
theorem dX0_removeScene_40 : decode cX0_removeScene 40 = .ok (.iload_n 2, 1) := by decide +kernel
theorem dX0_removeScene_41 : decode cX0_removeScene 41 = .ok (.putfield 9, 3) := by decide +kernel
theorem dX0_removeScene_44 : decode cX0_removeScene 44 = .ok (.return_, 1) := by decide +kernel
set_option maxRecDepth 20000 in
theorem ggX0_removeScene_X0_swap : GoodIn wsX0_removeScene wsX0_swap := goodIn_r _ [13, 14, 2, 15, 16, 17, 18, 19, 6, 20, 21, 4, 5, 7, 8, 22, 23, 24, 25, 26, 27, 28, 29, 30, 31, 32] (by decide +kernel) (by decide +kernel)
set_option maxRecDepth 20000 in
theorem gX0_removeScene_X0_swap : GoodIn wsX0_removeScene (wsV RX0 57 RX0 yX0_swap wsX0_swap) := goodIn_app (goodIn_of _ (by decide +kernel)) ggX0_removeScene_X0_swap
set_option maxRecDepth 20000 in
theorem ggX0_removeScene_X4_get : GoodIn wsX0_removeScene wsX4_get := goodIn_r _ [7, 8, 32] (by decide +kernel) (by decide +kernel)
set_option maxRecDepth 20000 in
theorem gX0_removeScene_X4_get : GoodIn wsX0_removeScene (wsV RX0 46 RX4 yX4_get wsX4_get) := goodIn_app (goodIn_of _ (by decide +kernel)) ggX0_removeScene_X4_get
theorem iX0_removeScene_0 : ∀ w ∈ u_ws RX0 TX0 6, w ∈ wsX0_removeScene := fun w h => List.mem_cons_of_mem _ (List.mem_append_left _ (List.mem_append_right _ (h)))
set_option maxHeartbeats 4000000 in
set_option maxRecDepth 100000 in
theorem w_X0_removeScene_L4 {p : Program} {l : Launch} {e : Env} {s : State} {m : MethodId} {args : Array Value} {below : List Frame} {meth : Method} {c : Code} {E : EE} {g : GG} {ad : Nat → Nat} (hg : gwf g) (X : CallFix p m c cX0_removeScene 4 s args wsX0_removeScene RX0) (K : Kn E s) (hr : meth.sig.returnType = none) (hlk : meth.locks = false) {Q : Mm → Prop} : ∀ (n : Nat) (o0 : Nat) (x1 : Int) (x2 : Int) (x3 : Int) (M : Mm) (H : Heap) (locs : List Loc) (ls : Array Slot), gk g o0 = 0 → Rw E g ad M s.heap H locs → lv_has ls 4 [(0, .ref (ad o0)), (1, cI x1), (2, cI x2), (3, cI x3)] → p_X0_removeScene_L4 g n o0 x1 x2 x3 M Q → W p l e rmX0_removeScene s m args below meth c H locs 0 0 (MQ below (QV E g ad Q) args s 0 0 (Rg g ad)) (F0 m 4 ls []) := by
  intro n
  induction n with
  | zero =>
    intro o0 x1 x2 x3 M H locs ls k_o0 w hl h
    exact absurd h (by unfold p_X0_removeScene_L4; exact id)
  | succ n ih =>
    intro o0 x1 x2 x3 M H locs ls k_o0 w hl h
    unfold p_X0_removeScene_L4 at h
    refine lv_iload_n X.1 X.2.1 dX0_removeScene_4 rfl (lv_at hl 3 rfl) ?_
    refine lv_aload_n X.1 X.2.1 dX0_removeScene_5 rfl (lv_at hl 0 rfl) ?_
    refine r_geti (N := 6) (T := TX0) (kz := 5) X K w iX0_removeScene_0 k_o0 rfl (by decide) 5 (by decide) rfl rfl rfl (List.mem_of_getElem? (i := 1) rfl) dX0_removeScene_6 ?_
    obtain ⟨i0, i1, h1, h2⟩ := h
    refine r_icmp_ge (tgt := 39) X i0 i1 dX0_removeScene_9 (by decide) (fun cc => ?_) (fun cc => ?_)
    · have h := h1 cc
      refine lv_aload_n X.1 X.2.1 dX0_removeScene_39 rfl (lv_at hl 0 rfl) ?_
      refine lv_iload_n X.1 X.2.1 dX0_removeScene_40 rfl (lv_at hl 2 rfl) ?_
      refine r_puti (N := 6) (T := TX0) (kz := 5) (ty := .int) X K w iX0_removeScene_0 tyX0 tyX0_ok nmX0 k_o0 rfl (by decide) 5 (by decide) rfl rfl rfl rfl (by decide +kernel) rfl rfl (List.mem_of_getElem? (i := 1) rfl) dX0_removeScene_41 (fun M1 H locs e w => ?_)
      replace h := h M1 e
      exact r_return X hr hlk K w h dX0_removeScene_44
    · have h := h2 cc
      refine lv_aload_n X.1 X.2.1 dX0_removeScene_12 rfl (lv_at hl 0 rfl) ?_
      refine r_getr (N := 6) (T := TX0) X K w iX0_removeScene_0 k_o0 rfl (by decide) 2 (by decide) rfl rfl (List.mem_of_getElem? (i := 2) rfl) dX0_removeScene_13 ?_
      have k2 : gk g (o0 + 3) = 4 := gch hg k_o0 (by decide) 2 (by decide) rfl rfl
      refine lv_iload_n X.1 X.2.1 dX0_removeScene_16 rfl (lv_at hl 3 rfl) ?_
      refine q_i (x_V (As := [cI x3]) (rest := []) X K w (c_X4_get hg k2 h) (cwV 1 X.2.2.2.2 gX0_removeScene_X4_get rfl rfl rfl (by decide +kernel) ⟨Nat.le_of_ble_eq_true rfl, Nat.le_of_ble_eq_true rfl⟩) k2 (by decide) rfl rfl hl rfl (Nat.le_of_ble_eq_true rfl) dX0_removeScene_17 ⟨Nat.le_of_ble_eq_true rfl, Nat.le_of_ble_eq_true rfl⟩) w (fun r4 M3 H locs h w => ?_)
      refine lv_iload_n X.1 X.2.1 dX0_removeScene_20 rfl (lv_at hl 1 rfl) ?_
      obtain ⟨i0, i1, h1, h2⟩ := h
      refine r_icmp_eq (tgt := 33) X i0 i1 dX0_removeScene_21 (by decide) (fun cc => ?_) (fun cc => ?_)
      · have h := h1 cc
        refine r_iinc (lv' := [(3, cI (x3 + 1)), (0, .ref (ad o0)), (1, cI x1), (2, cI x2)]) X hl (k := 3) rfl (by decide) dX0_removeScene_33 rfl (fun ls hl => ?_)
        refine lv_goto (tgt := 4) X.1 X.2.1 dX0_removeScene_36 (by decide) ?_
        exact ih o0 x1 x2 (x3 + 1) M3 _ _ _ k_o0 w (lv_sub hl [1, 2, 3, 0] rfl) h
      · have h := h2 cc
        refine lv_aload_n X.1 X.2.1 dX0_removeScene_24 rfl (lv_at hl 0 rfl) ?_
        refine lv_iload_n X.1 X.2.1 dX0_removeScene_25 rfl (lv_at hl 2 rfl) ?_
        refine lv_iload_n X.1 X.2.1 dX0_removeScene_26 rfl (lv_at hl 3 rfl) ?_
        refine q_v (x_V (As := [cI x2, cI x3]) (rest := []) X K w (c_X0_swap hg k_o0 h) (cwV 2 X.2.2.2.2 gX0_removeScene_X0_swap rfl rfl rfl (by decide +kernel) ⟨Nat.le_of_ble_eq_true rfl, Nat.le_of_ble_eq_true rfl⟩) k_o0 (by decide) rfl rfl hl rfl (Nat.le_of_ble_eq_true rfl) dX0_removeScene_27 ⟨Nat.le_of_ble_eq_true rfl, Nat.le_of_ble_eq_true rfl⟩) w (fun M5 H locs h w => ?_)
        refine r_iinc (lv' := [(2, cI (x2 + 1)), (0, .ref (ad o0)), (1, cI x1), (3, cI x3)]) X hl (k := 2) rfl (by decide) dX0_removeScene_30 rfl (fun ls hl => ?_)
        refine r_iinc (lv' := [(3, cI (x3 + 1)), (2, cI (x2 + 1)), (0, .ref (ad o0)), (1, cI x1)]) X hl (k := 3) rfl (by decide) dX0_removeScene_33 rfl (fun ls hl => ?_)
        refine lv_goto (tgt := 4) X.1 X.2.1 dX0_removeScene_36 (by decide) ?_
        exact ih o0 x1 (x2 + 1) (x3 + 1) M5 _ _ _ k_o0 w (lv_sub hl [2, 3, 1, 0] rfl) h
set_option maxHeartbeats 4000000 in
set_option maxRecDepth 100000 in
theorem c_X0_removeScene {E : EE} {l : Launch} {g : GG} {ad : Nat → Nat} (hg : gwf g) {o0 : Nat} {x1 : Int} {M : Mm} {Q : Mm → Prop} (k_o0 : gk g o0 = 0) (h : p_X0_removeScene g o0 x1 M Q) : Ct E l yX0_removeScene wsX0_removeScene rmX0_removeScene g ad [.ref (ad o0), cI x1] M (QV E g ad Q) := by
  refine ent (cc := cX0_removeScene) (maxL := 4) (ret := none) (own := RX0) (by decide +kernel) rfl rfl (Nat.le_of_ble_eq_true rfl) ?_
  intro p e s m below meth c ls X hr hlk K w hl
  have hl : lv_has ls 4 [(0, .ref (ad o0)), (1, cI x1)] := hl
  unfold p_X0_removeScene at h
  refine r_iconst X dX0_removeScene_0 ?_
  refine lv_istore_n (lv' := [(2, cI 0), (0, .ref (ad o0)), (1, cI x1)]) X.1 X.2.1 dX0_removeScene_1 rfl hl (by decide) rfl (fun ls hl => ?_)
  refine r_iconst X dX0_removeScene_2 ?_
  refine lv_istore_n (lv' := [(3, cI 0), (2, cI 0), (0, .ref (ad o0)), (1, cI x1)]) X.1 X.2.1 dX0_removeScene_3 rfl hl (by decide) rfl (fun ls hl => ?_)
  obtain ⟨n6, h⟩ := h
  exact w_X0_removeScene_L4 hg X K hr hlk n6 o0 x1 0 0 M _ _ _ k_o0 w (lv_sub hl [2, 3, 1, 0] rfl) h
theorem dX7_isWithin_0 : decode cX7_isWithin 0 = .ok (.iload_n 0, 1) := by decide +kernel
theorem dX7_isWithin_1 : decode cX7_isWithin 1 = .ok (.iload_n 1, 1) := by decide +kernel
theorem dX7_isWithin_2 : decode cX7_isWithin 2 = .ok (.if_icmp .lt 12, 3) := by decide +kernel
theorem dX7_isWithin_5 : decode cX7_isWithin 5 = .ok (.iload_n 0, 1) := by decide +kernel
theorem dX7_isWithin_6 : decode cX7_isWithin 6 = .ok (.iload_n 2, 1) := by decide +kernel
theorem dX7_isWithin_7 : decode cX7_isWithin 7 = .ok (.if_icmp .gt 7, 3) := by decide +kernel
theorem dX7_isWithin_10 : decode cX7_isWithin 10 = .ok (.iconst 1, 1) := by decide +kernel
theorem dX7_isWithin_11 : decode cX7_isWithin 11 = .ok (.goto 4, 3) := by decide +kernel
theorem dX7_isWithin_14 : decode cX7_isWithin 14 = .ok (.iconst 0, 1) := by decide +kernel
theorem dX7_isWithin_15 : decode cX7_isWithin 15 = .ok (.ireturn, 1) := by decide +kernel
set_option maxHeartbeats 4000000 in
set_option maxRecDepth 100000 in
theorem c_X7_isWithin {E : EE} {l : Launch} {g : GG} {ad : Nat → Nat} (hg : gwf g) {x0 : Int} {x1 : Int} {x2 : Int} {M : Mm} {Q : Int → Mm → Prop} (h : p_X7_isWithin g x0 x1 x2 M Q) : Ct E l yX7_isWithin wsX7_isWithin rmX7_isWithin g ad [cI x0, cI x1, cI x2] M (QI E g ad Q) := by
  refine ent (cc := cX7_isWithin) (maxL := 3) (ret := (some .boolean)) (own := RX7) (by decide +kernel) rfl rfl (Nat.le_of_ble_eq_true rfl) ?_
  intro p e s m below meth c ls X hr hlk K w hl
  have hl : lv_has ls 3 [(0, cI x0), (1, cI x1), (2, cI x2)] := hl
  unfold p_X7_isWithin at h
  refine lv_iload_n X.1 X.2.1 dX7_isWithin_0 rfl (lv_at hl 0 rfl) ?_
  refine lv_iload_n X.1 X.2.1 dX7_isWithin_1 rfl (lv_at hl 1 rfl) ?_
  obtain ⟨i0, i1, h1, h2⟩ := h
  refine r_icmp_lt (tgt := 14) X i0 i1 dX7_isWithin_2 (by decide) (fun cc => ?_) (fun cc => ?_)
  · have h := h1 cc
    refine r_iconst X dX7_isWithin_14 ?_
    exact r_zreturn X hr hlk K w (by decide +kernel) h dX7_isWithin_15
  · have h := h2 cc
    refine lv_iload_n X.1 X.2.1 dX7_isWithin_5 rfl (lv_at hl 0 rfl) ?_
    refine lv_iload_n X.1 X.2.1 dX7_isWithin_6 rfl (lv_at hl 2 rfl) ?_
    obtain ⟨i0, i1, h1, h2⟩ := h
    refine r_icmp_gt (tgt := 14) X i0 i1 dX7_isWithin_7 (by decide) (fun cc => ?_) (fun cc => ?_)
    · have h := h1 cc
      refine r_iconst X dX7_isWithin_14 ?_
      exact r_zreturn X hr hlk K w (by decide +kernel) h dX7_isWithin_15
    · have h := h2 cc
      refine r_iconst X dX7_isWithin_10 ?_
      refine lv_goto (tgt := 15) X.1 X.2.1 dX7_isWithin_11 (by decide) ?_
      exact r_zreturn X hr hlk K w (by decide +kernel) h dX7_isWithin_15
theorem dX0_canMove_0 : decode cX0_canMove 0 = .ok (.iconst 0, 1) := by decide +kernel
theorem dX0_canMove_1 : decode cX0_canMove 1 = .ok (.istore_n 3, 1) := by decide +kernel
theorem dX0_canMove_2 : decode cX0_canMove 2 = .ok (.iload_n 3, 1) := by decide +kernel
theorem dX0_canMove_3 : decode cX0_canMove 3 = .ok (.aload_n 0, 1) := by decide +kernel
theorem dX0_canMove_4 : decode cX0_canMove 4 = .ok (.getfield 9, 3) := by decide +kernel
theorem dX0_canMove_7 : decode cX0_canMove 7 = .ok (.if_icmp .ge 43, 3) := by decide +kernel
theorem dX0_canMove_10 : decode cX0_canMove 10 = .ok (.aload_n 0, 1) := by decide +kernel
theorem dX0_canMove_11 : decode cX0_canMove 11 = .ok (.getfield 27, 3) := by decide +kernel
theorem dX0_canMove_14 : decode cX0_canMove 14 = .ok (.iload_n 3, 1) := by decide +kernel
theorem dX0_canMove_15 : decode cX0_canMove 15 = .ok (.invokevirtual 46, 3) := by decide +kernel
theorem dX0_canMove_18 : decode cX0_canMove 18 = .ok (.iload_n 1, 1) := by decide +kernel
theorem dX0_canMove_19 : decode cX0_canMove 19 = .ok (.if_icmp .ne 25, 3) := by decide +kernel
theorem dX0_canMove_22 : decode cX0_canMove 22 = .ok (.aload_n 0, 1) := by decide +kernel
theorem dX0_canMove_23 : decode cX0_canMove 23 = .ok (.getfield 23, 3) := by decide +kernel
theorem dX0_canMove_26 : decode cX0_canMove 26 = .ok (.iload_n 3, 1) := by decide +kernel
theorem dX0_canMove_27 : decode cX0_canMove 27 = .ok (.invokevirtual 46, 3) := by decide +kernel
theorem dX0_canMove_30 : decode cX0_canMove 30 = .ok (.iload_n 2, 1) := by decide +kernel
theorem dX0_canMove_31 : decode cX0_canMove 31 = .ok (.iadd, 1) := by decide +kernel
theorem dX0_canMove_32 : decode cX0_canMove 32 = .ok (.iconst 0, 1) := by decide +kernel
theorem dX0_canMove_33 : decode cX0_canMove 33 = .ok (.sipush 999, 3) := by decide +kernel
theorem dX0_canMove_36 : decode cX0_canMove 36 = .ok (.invokestatic 60, 3) := by decide +kernel
theorem dX0_canMove_39 : decode cX0_canMove 39 = .ok (.ifCond .ne 5, 3) := by decide +kernel
theorem dX0_canMove_42 : decode cX0_canMove 42 = .ok (.iconst 0, 1) := by decide +kernel
theorem dX0_canMove_43 : decode cX0_canMove 43 = .ok (.ireturn, 1) := by decide +kernel
theorem dX0_canMove_44 : decode cX0_canMove 44 = .ok (.iinc 3 1, 3) := by decide +kernel
theorem dX0_canMove_47 : decode cX0_canMove 47 = .ok (.goto (-45), 3) := by decide +kernel
theorem dX0_canMove_50 : decode cX0_canMove 50 = .ok (.iconst 1, 1) := by decide +kernel
theorem dX0_canMove_51 : decode cX0_canMove 51 = .ok (.ireturn, 1) := by decide +kernel
set_option maxRecDepth 20000 in
theorem ggX0_canMove_X4_get : GoodIn wsX0_canMove wsX4_get := goodIn_r _ [8, 9, 19] (by decide +kernel) (by decide +kernel)
set_option maxRecDepth 20000 in
theorem gX0_canMove_X4_get : GoodIn wsX0_canMove (wsV RX0 46 RX4 yX4_get wsX4_get) := goodIn_app (goodIn_of _ (by decide +kernel)) ggX0_canMove_X4_get
set_option maxRecDepth 20000 in
theorem ggX0_canMove_X7_isWithin : GoodIn wsX0_canMove wsX7_isWithin := goodIn_r _ [12] (by decide +kernel) (by decide +kernel)
set_option maxRecDepth 20000 in
theorem gX0_canMove_X7_isWithin_n60 : GoodIn wsX0_canMove (wsX7_isWithin) := ggX0_canMove_X7_isWithin
theorem iX0_canMove_0 : ∀ w ∈ u_ws RX0 TX0 6, w ∈ wsX0_canMove := fun w h => List.mem_cons_of_mem _ (List.mem_append_left _ (List.mem_append_right _ (h)))
set_option maxHeartbeats 4000000 in
set_option maxRecDepth 100000 in
theorem w_X0_canMove_L2 {p : Program} {l : Launch} {e : Env} {s : State} {m : MethodId} {args : Array Value} {below : List Frame} {meth : Method} {c : Code} {E : EE} {g : GG} {ad : Nat → Nat} (hg : gwf g) (X : CallFix p m c cX0_canMove 4 s args wsX0_canMove RX0) (K : Kn E s) (hr : meth.sig.returnType = (some .boolean)) (hlk : meth.locks = false) {Q : Int → Mm → Prop} : ∀ (n : Nat) (o0 : Nat) (x1 : Int) (x2 : Int) (x3 : Int) (M : Mm) (H : Heap) (locs : List Loc) (ls : Array Slot), gk g o0 = 0 → Rw E g ad M s.heap H locs → lv_has ls 4 [(0, .ref (ad o0)), (1, cI x1), (2, cI x2), (3, cI x3)] → p_X0_canMove_L2 g n o0 x1 x2 x3 M Q → W p l e rmX0_canMove s m args below meth c H locs 0 0 (MQ below (QI E g ad Q) args s 0 0 (Rg g ad)) (F0 m 2 ls []) := by
  intro n
  induction n with
  | zero =>
    intro o0 x1 x2 x3 M H locs ls k_o0 w hl h
    exact absurd h (by unfold p_X0_canMove_L2; exact id)
  | succ n ih =>
    intro o0 x1 x2 x3 M H locs ls k_o0 w hl h
    unfold p_X0_canMove_L2 at h
    refine lv_iload_n X.1 X.2.1 dX0_canMove_2 rfl (lv_at hl 3 rfl) ?_
    refine lv_aload_n X.1 X.2.1 dX0_canMove_3 rfl (lv_at hl 0 rfl) ?_
    refine r_geti (N := 6) (T := TX0) (kz := 5) X K w iX0_canMove_0 k_o0 rfl (by decide) 5 (by decide) rfl rfl rfl (List.mem_of_getElem? (i := 1) rfl) dX0_canMove_4 ?_
    obtain ⟨i0, i1, h1, h2⟩ := h
    refine r_icmp_ge (tgt := 50) X i0 i1 dX0_canMove_7 (by decide) (fun cc => ?_) (fun cc => ?_)
    · have h := h1 cc
      refine r_iconst X dX0_canMove_50 ?_
      exact r_zreturn X hr hlk K w (by decide +kernel) h dX0_canMove_51
    · have h := h2 cc
      refine lv_aload_n X.1 X.2.1 dX0_canMove_10 rfl (lv_at hl 0 rfl) ?_
      refine r_getr (N := 6) (T := TX0) X K w iX0_canMove_0 k_o0 rfl (by decide) 2 (by decide) rfl rfl (List.mem_of_getElem? (i := 2) rfl) dX0_canMove_11 ?_
      have k1 : gk g (o0 + 3) = 4 := gch hg k_o0 (by decide) 2 (by decide) rfl rfl
      refine lv_iload_n X.1 X.2.1 dX0_canMove_14 rfl (lv_at hl 3 rfl) ?_
      refine q_i (x_V (As := [cI x3]) (rest := []) X K w (c_X4_get hg k1 h) (cwV 1 X.2.2.2.2 gX0_canMove_X4_get rfl rfl rfl (by decide +kernel) ⟨Nat.le_of_ble_eq_true rfl, Nat.le_of_ble_eq_true rfl⟩) k1 (by decide) rfl rfl hl rfl (Nat.le_of_ble_eq_true rfl) dX0_canMove_15 ⟨Nat.le_of_ble_eq_true rfl, Nat.le_of_ble_eq_true rfl⟩) w (fun r3 M2 H locs h w => ?_)
      refine lv_iload_n X.1 X.2.1 dX0_canMove_18 rfl (lv_at hl 1 rfl) ?_
      obtain ⟨i0, i1, h1, h2⟩ := h
      refine r_icmp_ne (tgt := 44) X i0 i1 dX0_canMove_19 (by decide) (fun cc => ?_) (fun cc => ?_)
      · have h := h1 cc
        refine r_iinc (lv' := [(3, cI (x3 + 1)), (0, .ref (ad o0)), (1, cI x1), (2, cI x2)]) X hl (k := 3) rfl (by decide) dX0_canMove_44 rfl (fun ls hl => ?_)
        refine lv_goto (tgt := 2) X.1 X.2.1 dX0_canMove_47 (by decide) ?_
        exact ih o0 x1 x2 (x3 + 1) M2 _ _ _ k_o0 w (lv_sub hl [1, 2, 3, 0] rfl) h
      · have h := h2 cc
        refine lv_aload_n X.1 X.2.1 dX0_canMove_22 rfl (lv_at hl 0 rfl) ?_
        refine r_getr (N := 6) (T := TX0) X K w iX0_canMove_0 k_o0 rfl (by decide) 1 (by decide) rfl rfl (List.mem_of_getElem? (i := 3) rfl) dX0_canMove_23 ?_
        have k4 : gk g (o0 + 1) = 4 := gch hg k_o0 (by decide) 1 (by decide) rfl rfl
        refine lv_iload_n X.1 X.2.1 dX0_canMove_26 rfl (lv_at hl 3 rfl) ?_
        refine q_i (x_V (As := [cI x3]) (rest := []) X K w (c_X4_get hg k4 h) (cwV 1 X.2.2.2.2 gX0_canMove_X4_get rfl rfl rfl (by decide +kernel) ⟨Nat.le_of_ble_eq_true rfl, Nat.le_of_ble_eq_true rfl⟩) k4 (by decide) rfl rfl hl rfl (Nat.le_of_ble_eq_true rfl) dX0_canMove_27 ⟨Nat.le_of_ble_eq_true rfl, Nat.le_of_ble_eq_true rfl⟩) w (fun r6 M5 H locs h w => ?_)
        refine lv_iload_n X.1 X.2.1 dX0_canMove_30 rfl (lv_at hl 2 rfl) ?_
        refine r_iadd X dX0_canMove_31 ?_
        refine r_iconst X dX0_canMove_32 ?_
        refine r_sipush X dX0_canMove_33 (by decide +kernel) ?_
        refine q_i (x_SN (As := [cI (r6 + x2), cI 0, cI 999]) (rest := []) X K w (c_X7_isWithin hg h) ⟨va_cnB 3 X.2.2.2.2 gX0_canMove_X7_isWithin_n60 rfl rfl rfl (K.2.2 _ (List.mem_of_getElem? (i := 5) rfl)) (X.2.2.2.2 _ (List.mem_of_getElem? (i := 11) rfl)) (by decide +kernel) ⟨Nat.le_of_ble_eq_true rfl, Nat.le_of_ble_eq_true rfl⟩, X.2.2.2.2 _ (List.mem_of_getElem? (i := 10) rfl), trivial⟩ rfl hl rfl (Nat.le_of_ble_eq_true rfl) dX0_canMove_36 ⟨Nat.le_of_ble_eq_true rfl, Nat.le_of_ble_eq_true rfl⟩) w (fun r8 M7 H locs h w => ?_)
        obtain ⟨i0, h1, h2⟩ := h
        refine r_if_ne (tgt := 44) X i0 dX0_canMove_39 (by decide) (fun cc => ?_) (fun cc => ?_)
        · have h := h1 cc
          refine r_iinc (lv' := [(3, cI (x3 + 1)), (0, .ref (ad o0)), (1, cI x1), (2, cI x2)]) X hl (k := 3) rfl (by decide) dX0_canMove_44 rfl (fun ls hl => ?_)
          refine lv_goto (tgt := 2) X.1 X.2.1 dX0_canMove_47 (by decide) ?_
          exact ih o0 x1 x2 (x3 + 1) M7 _ _ _ k_o0 w (lv_sub hl [1, 2, 3, 0] rfl) h
        · have h := h2 cc
          refine r_iconst X dX0_canMove_42 ?_
          exact r_zreturn X hr hlk K w (by decide +kernel) h dX0_canMove_43
set_option maxHeartbeats 4000000 in
set_option maxRecDepth 100000 in
theorem c_X0_canMove {E : EE} {l : Launch} {g : GG} {ad : Nat → Nat} (hg : gwf g) {o0 : Nat} {x1 : Int} {x2 : Int} {M : Mm} {Q : Int → Mm → Prop} (k_o0 : gk g o0 = 0) (h : p_X0_canMove g o0 x1 x2 M Q) : Ct E l yX0_canMove wsX0_canMove rmX0_canMove g ad [.ref (ad o0), cI x1, cI x2] M (QI E g ad Q) := by
  refine ent (cc := cX0_canMove) (maxL := 4) (ret := (some .boolean)) (own := RX0) (by decide +kernel) rfl rfl (Nat.le_of_ble_eq_true rfl) ?_
  intro p e s m below meth c ls X hr hlk K w hl
  have hl : lv_has ls 4 [(0, .ref (ad o0)), (1, cI x1), (2, cI x2)] := hl
  unfold p_X0_canMove at h
  refine r_iconst X dX0_canMove_0 ?_
  refine lv_istore_n (lv' := [(3, cI 0), (0, .ref (ad o0)), (1, cI x1), (2, cI x2)]) X.1 X.2.1 dX0_canMove_1 rfl hl (by decide) rfl (fun ls hl => ?_)
  obtain ⟨n9, h⟩ := h
  exact w_X0_canMove_L2 hg X K hr hlk n9 o0 x1 x2 0 M _ _ _ k_o0 w (lv_sub hl [1, 2, 3, 0] rfl) h
theorem dX4_increase_0 : decode cX4_increase 0 = .ok (.aload_n 0, 1) := by decide +kernel
theorem dX4_increase_1 : decode cX4_increase 1 = .ok (.iload_n 1, 1) := by decide +kernel
theorem dX4_increase_2 : decode cX4_increase 2 = .ok (.aload_n 0, 1) := by decide +kernel
theorem dX4_increase_3 : decode cX4_increase 3 = .ok (.iload_n 1, 1) := by decide +kernel
theorem dX4_increase_4 : decode cX4_increase 4 = .ok (.invokevirtual 19, 3) := by decide +kernel
theorem dX4_increase_7 : decode cX4_increase 7 = .ok (.iload_n 2, 1) := by decide +kernel
theorem dX4_increase_8 : decode cX4_increase 8 = .ok (.iadd, 1) := by decide +kernel
theorem dX4_increase_9 : decode cX4_increase 9 = .ok (.invokevirtual 23, 3) := by decide +kernel
theorem dX4_increase_12 : decode cX4_increase 12 = .ok (.return_, 1) := by decide +kernel
set_option maxRecDepth 20000 in
theorem ggX4_increase_X4_get : GoodIn wsX4_increase wsX4_get := goodIn_r _ [5, 6, 11] (by decide +kernel) (by decide +kernel)
set_option maxRecDepth 20000 in
theorem gX4_increase_X4_get : GoodIn wsX4_increase (wsV RX4 19 RX4 yX4_get wsX4_get) := goodIn_app (goodIn_of _ (by decide +kernel)) ggX4_increase_X4_get
set_option maxRecDepth 20000 in
theorem ggX4_increase_X4_put : GoodIn wsX4_increase wsX4_put := goodIn_r _ [10, 6, 11] (by decide +kernel) (by decide +kernel)
set_option maxRecDepth 20000 in
theorem gX4_increase_X4_put : GoodIn wsX4_increase (wsV RX4 23 RX4 yX4_put wsX4_put) := goodIn_app (goodIn_of _ (by decide +kernel)) ggX4_increase_X4_put
set_option maxHeartbeats 4000000 in
set_option maxRecDepth 100000 in
theorem c_X4_increase {E : EE} {l : Launch} {g : GG} {ad : Nat → Nat} (hg : gwf g) {o0 : Nat} {x1 : Int} {x2 : Int} {M : Mm} {Q : Mm → Prop} (k_o0 : gk g o0 = 4) (h : p_X4_increase g o0 x1 x2 M Q) : Ct E l yX4_increase wsX4_increase rmX4_increase g ad [.ref (ad o0), cI x1, cI x2] M (QV E g ad Q) := by
  refine ent (cc := cX4_increase) (maxL := 3) (ret := none) (own := RX4) (by decide +kernel) rfl rfl (Nat.le_of_ble_eq_true rfl) ?_
  intro p e s m below meth c ls X hr hlk K w hl
  have hl : lv_has ls 3 [(0, .ref (ad o0)), (1, cI x1), (2, cI x2)] := hl
  unfold p_X4_increase at h
  refine lv_aload_n X.1 X.2.1 dX4_increase_0 rfl (lv_at hl 0 rfl) ?_
  refine lv_iload_n X.1 X.2.1 dX4_increase_1 rfl (lv_at hl 1 rfl) ?_
  refine lv_aload_n X.1 X.2.1 dX4_increase_2 rfl (lv_at hl 0 rfl) ?_
  refine lv_iload_n X.1 X.2.1 dX4_increase_3 rfl (lv_at hl 1 rfl) ?_
  refine q_i (x_V (As := [cI x1]) (rest := [cI x1, .ref (ad o0)]) X K w (c_X4_get hg k_o0 h) (cwV 1 X.2.2.2.2 gX4_increase_X4_get rfl rfl rfl (by decide +kernel) ⟨Nat.le_of_ble_eq_true rfl, Nat.le_of_ble_eq_true rfl⟩) k_o0 (by decide) rfl rfl hl rfl (Nat.le_of_ble_eq_true rfl) dX4_increase_4 ⟨Nat.le_of_ble_eq_true rfl, Nat.le_of_ble_eq_true rfl⟩) w (fun r2 M1 H locs h w => ?_)
  refine lv_iload_n X.1 X.2.1 dX4_increase_7 rfl (lv_at hl 2 rfl) ?_
  refine r_iadd X dX4_increase_8 ?_
  refine q_v (x_V (As := [cI x1, cI (r2 + x2)]) (rest := []) X K w (c_X4_put hg k_o0 h) (cwV 2 X.2.2.2.2 gX4_increase_X4_put rfl rfl rfl (by decide +kernel) ⟨Nat.le_of_ble_eq_true rfl, Nat.le_of_ble_eq_true rfl⟩) k_o0 (by decide) rfl rfl hl rfl (Nat.le_of_ble_eq_true rfl) dX4_increase_9 ⟨Nat.le_of_ble_eq_true rfl, Nat.le_of_ble_eq_true rfl⟩) w (fun M3 H locs h w => ?_)
  exact r_return X hr hlk K w h dX4_increase_12
theorem dX0_moveScene_0 : decode cX0_moveScene 0 = .ok (.iconst 0, 1) := by decide +kernel
theorem dX0_moveScene_1 : decode cX0_moveScene 1 = .ok (.istore_n 3, 1) := by decide +kernel
theorem dX0_moveScene_2 : decode cX0_moveScene 2 = .ok (.iload_n 3, 1) := by decide +kernel
theorem dX0_moveScene_3 : decode cX0_moveScene 3 = .ok (.aload_n 0, 1) := by decide +kernel
theorem dX0_moveScene_4 : decode cX0_moveScene 4 = .ok (.getfield 9, 3) := by decide +kernel
theorem dX0_moveScene_7 : decode cX0_moveScene 7 = .ok (.if_icmp .ge 30, 3) := by decide +kernel
theorem dX0_moveScene_10 : decode cX0_moveScene 10 = .ok (.aload_n 0, 1) := by decide +kernel
theorem dX0_moveScene_11 : decode cX0_moveScene 11 = .ok (.getfield 27, 3) := by decide +kernel
theorem dX0_moveScene_14 : decode cX0_moveScene 14 = .ok (.iload_n 3, 1) := by decide +kernel
theorem dX0_moveScene_15 : decode cX0_moveScene 15 = .ok (.invokevirtual 46, 3) := by decide +kernel
theorem dX0_moveScene_18 : decode cX0_moveScene 18 = .ok (.iload_n 1, 1) := by decide +kernel
theorem dX0_moveScene_19 : decode cX0_moveScene 19 = .ok (.if_icmp .ne 12, 3) := by decide +kernel
theorem dX0_moveScene_22 : decode cX0_moveScene 22 = .ok (.aload_n 0, 1) := by decide +kernel
theorem dX0_moveScene_23 : decode cX0_moveScene 23 = .ok (.getfield 23, 3) := by decide +kernel
theorem dX0_moveScene_26 : decode cX0_moveScene 26 = .ok (.iload_n 3, 1) := by decide +kernel
theorem dX0_moveScene_27 : decode cX0_moveScene 27 = .ok (.iload_n 2, 1) := by decide +kernel
theorem dX0_moveScene_28 : decode cX0_moveScene 28 = .ok (.invokevirtual 64, 3) := by decide +kernel
theorem dX0_moveScene_31 : decode cX0_moveScene 31 = .ok (.iinc 3 1, 3) := by decide +kernel
theorem dX0_moveScene_34 : decode cX0_moveScene 34 = .ok (.goto (-32), 3) := by decide +kernel
theorem dX0_moveScene_37 : decode cX0_moveScene 37 = .ok (.aload_n 0, 1) := by decide +kernel
theorem dX0_moveScene_38 : decode cX0_moveScene 38 = .ok (.invokevirtual 67, 3) := by decide +kernel
theorem dX0_moveScene_41 : decode cX0_moveScene 41 = .ok (.return_, 1) := by decide +kernel
set_option maxRecDepth 20000 in
theorem ggX0_moveScene_X0_putInOrder : GoodIn wsX0_moveScene wsX0_putInOrder := goodIn_r _ [23, 1, 24, 25, 26, 22, 27, 28, 29, 30, 31, 3, 2, 32, 4, 5, 6, 7, 8, 9, 33, 34, 35, 36, 37, 38, 39, 40, 41, 14, 15, 16, 17, 18, 42, 43, 44, 45, 46, 47, 48] (by decide +kernel) (by decide +kernel)
set_option maxRecDepth 20000 in
theorem gX0_moveScene_X0_putInOrder : GoodIn wsX0_moveScene (wsV RX0 67 RX0 yX0_putInOrder wsX0_putInOrder) := goodIn_app (goodIn_of _ (by decide +kernel)) ggX0_moveScene_X0_putInOrder
set_option maxRecDepth 20000 in
theorem ggX0_moveScene_X4_get : GoodIn wsX0_moveScene wsX4_get := goodIn_r _ [8, 9, 48] (by decide +kernel) (by decide +kernel)
set_option maxRecDepth 20000 in
theorem gX0_moveScene_X4_get : GoodIn wsX0_moveScene (wsV RX0 46 RX4 yX4_get wsX4_get) := goodIn_app (goodIn_of _ (by decide +kernel)) ggX0_moveScene_X4_get
set_option maxRecDepth 20000 in
theorem ggX0_moveScene_X4_increase : GoodIn wsX0_moveScene wsX4_increase := goodIn_r _ [13, 14, 5, 6, 7, 8, 9, 15, 16, 17, 18, 48] (by decide +kernel) (by decide +kernel)
set_option maxRecDepth 20000 in
theorem gX0_moveScene_X4_increase : GoodIn wsX0_moveScene (wsV RX0 64 RX4 yX4_increase wsX4_increase) := goodIn_app (goodIn_of _ (by decide +kernel)) ggX0_moveScene_X4_increase
theorem iX0_moveScene_0 : ∀ w ∈ u_ws RX0 TX0 6, w ∈ wsX0_moveScene := fun w h => List.mem_cons_of_mem _ (List.mem_append_left _ (List.mem_append_right _ (h)))
set_option maxHeartbeats 4000000 in
set_option maxRecDepth 100000 in
theorem w_X0_moveScene_L2 {p : Program} {l : Launch} {e : Env} {s : State} {m : MethodId} {args : Array Value} {below : List Frame} {meth : Method} {c : Code} {E : EE} {g : GG} {ad : Nat → Nat} (hg : gwf g) (X : CallFix p m c cX0_moveScene 4 s args wsX0_moveScene RX0) (K : Kn E s) (hr : meth.sig.returnType = none) (hlk : meth.locks = false) {Q : Mm → Prop} : ∀ (n : Nat) (o0 : Nat) (x1 : Int) (x2 : Int) (x3 : Int) (M : Mm) (H : Heap) (locs : List Loc) (ls : Array Slot), gk g o0 = 0 → Rw E g ad M s.heap H locs → lv_has ls 4 [(0, .ref (ad o0)), (1, cI x1), (2, cI x2), (3, cI x3)] → p_X0_moveScene_L2 g n o0 x1 x2 x3 M Q → W p l e rmX0_moveScene s m args below meth c H locs 0 0 (MQ below (QV E g ad Q) args s 0 0 (Rg g ad)) (F0 m 2 ls []) := by
  intro n
  induction n with
  | zero =>
    intro o0 x1 x2 x3 M H locs ls k_o0 w hl h
    exact absurd h (by unfold p_X0_moveScene_L2; exact id)
  | succ n ih =>
    intro o0 x1 x2 x3 M H locs ls k_o0 w hl h
    unfold p_X0_moveScene_L2 at h
    refine lv_iload_n X.1 X.2.1 dX0_moveScene_2 rfl (lv_at hl 3 rfl) ?_
    refine lv_aload_n X.1 X.2.1 dX0_moveScene_3 rfl (lv_at hl 0 rfl) ?_
    refine r_geti (N := 6) (T := TX0) (kz := 5) X K w iX0_moveScene_0 k_o0 rfl (by decide) 5 (by decide) rfl rfl rfl (List.mem_of_getElem? (i := 1) rfl) dX0_moveScene_4 ?_
    obtain ⟨i0, i1, h1, h2⟩ := h
    refine r_icmp_ge (tgt := 37) X i0 i1 dX0_moveScene_7 (by decide) (fun cc => ?_) (fun cc => ?_)
    · have h := h1 cc
      refine lv_aload_n X.1 X.2.1 dX0_moveScene_37 rfl (lv_at hl 0 rfl) ?_
      refine q_v (x_V (As := []) (rest := []) X K w (c_X0_putInOrder hg k_o0 h) (cwV 0 X.2.2.2.2 gX0_moveScene_X0_putInOrder rfl rfl rfl (by decide +kernel) ⟨Nat.le_of_ble_eq_true rfl, Nat.le_of_ble_eq_true rfl⟩) k_o0 (by decide) rfl rfl hl rfl (Nat.le_of_ble_eq_true rfl) dX0_moveScene_38 ⟨Nat.le_of_ble_eq_true rfl, Nat.le_of_ble_eq_true rfl⟩) w (fun M1 H locs h w => ?_)
      exact r_return X hr hlk K w h dX0_moveScene_41
    · have h := h2 cc
      refine lv_aload_n X.1 X.2.1 dX0_moveScene_10 rfl (lv_at hl 0 rfl) ?_
      refine r_getr (N := 6) (T := TX0) X K w iX0_moveScene_0 k_o0 rfl (by decide) 2 (by decide) rfl rfl (List.mem_of_getElem? (i := 2) rfl) dX0_moveScene_11 ?_
      have k2 : gk g (o0 + 3) = 4 := gch hg k_o0 (by decide) 2 (by decide) rfl rfl
      refine lv_iload_n X.1 X.2.1 dX0_moveScene_14 rfl (lv_at hl 3 rfl) ?_
      refine q_i (x_V (As := [cI x3]) (rest := []) X K w (c_X4_get hg k2 h) (cwV 1 X.2.2.2.2 gX0_moveScene_X4_get rfl rfl rfl (by decide +kernel) ⟨Nat.le_of_ble_eq_true rfl, Nat.le_of_ble_eq_true rfl⟩) k2 (by decide) rfl rfl hl rfl (Nat.le_of_ble_eq_true rfl) dX0_moveScene_15 ⟨Nat.le_of_ble_eq_true rfl, Nat.le_of_ble_eq_true rfl⟩) w (fun r4 M3 H locs h w => ?_)
      refine lv_iload_n X.1 X.2.1 dX0_moveScene_18 rfl (lv_at hl 1 rfl) ?_
      obtain ⟨i0, i1, h1, h2⟩ := h
      refine r_icmp_ne (tgt := 31) X i0 i1 dX0_moveScene_19 (by decide) (fun cc => ?_) (fun cc => ?_)
      · have h := h1 cc
        refine r_iinc (lv' := [(3, cI (x3 + 1)), (0, .ref (ad o0)), (1, cI x1), (2, cI x2)]) X hl (k := 3) rfl (by decide) dX0_moveScene_31 rfl (fun ls hl => ?_)
        refine lv_goto (tgt := 2) X.1 X.2.1 dX0_moveScene_34 (by decide) ?_
        exact ih o0 x1 x2 (x3 + 1) M3 _ _ _ k_o0 w (lv_sub hl [1, 2, 3, 0] rfl) h
      · have h := h2 cc
        refine lv_aload_n X.1 X.2.1 dX0_moveScene_22 rfl (lv_at hl 0 rfl) ?_
        refine r_getr (N := 6) (T := TX0) X K w iX0_moveScene_0 k_o0 rfl (by decide) 1 (by decide) rfl rfl (List.mem_of_getElem? (i := 3) rfl) dX0_moveScene_23 ?_
        have k5 : gk g (o0 + 1) = 4 := gch hg k_o0 (by decide) 1 (by decide) rfl rfl
        refine lv_iload_n X.1 X.2.1 dX0_moveScene_26 rfl (lv_at hl 3 rfl) ?_
        refine lv_iload_n X.1 X.2.1 dX0_moveScene_27 rfl (lv_at hl 2 rfl) ?_
        refine q_v (x_V (As := [cI x3, cI x2]) (rest := []) X K w (c_X4_increase hg k5 h) (cwV 2 X.2.2.2.2 gX0_moveScene_X4_increase rfl rfl rfl (by decide +kernel) ⟨Nat.le_of_ble_eq_true rfl, Nat.le_of_ble_eq_true rfl⟩) k5 (by decide) rfl rfl hl rfl (Nat.le_of_ble_eq_true rfl) dX0_moveScene_28 ⟨Nat.le_of_ble_eq_true rfl, Nat.le_of_ble_eq_true rfl⟩) w (fun M6 H locs h w => ?_)
        refine r_iinc (lv' := [(3, cI (x3 + 1)), (0, .ref (ad o0)), (1, cI x1), (2, cI x2)]) X hl (k := 3) rfl (by decide) dX0_moveScene_31 rfl (fun ls hl => ?_)
        refine lv_goto (tgt := 2) X.1 X.2.1 dX0_moveScene_34 (by decide) ?_
        exact ih o0 x1 x2 (x3 + 1) M6 _ _ _ k_o0 w (lv_sub hl [1, 2, 3, 0] rfl) h
set_option maxHeartbeats 4000000 in
set_option maxRecDepth 100000 in
theorem c_X0_moveScene {E : EE} {l : Launch} {g : GG} {ad : Nat → Nat} (hg : gwf g) {o0 : Nat} {x1 : Int} {x2 : Int} {M : Mm} {Q : Mm → Prop} (k_o0 : gk g o0 = 0) (h : p_X0_moveScene g o0 x1 x2 M Q) : Ct E l yX0_moveScene wsX0_moveScene rmX0_moveScene g ad [.ref (ad o0), cI x1, cI x2] M (QV E g ad Q) := by
  refine ent (cc := cX0_moveScene) (maxL := 4) (ret := none) (own := RX0) (by decide +kernel) rfl rfl (Nat.le_of_ble_eq_true rfl) ?_
  intro p e s m below meth c ls X hr hlk K w hl
  have hl : lv_has ls 4 [(0, .ref (ad o0)), (1, cI x1), (2, cI x2)] := hl
  unfold p_X0_moveScene at h
  refine r_iconst X dX0_moveScene_0 ?_
  refine lv_istore_n (lv' := [(3, cI 0), (0, .ref (ad o0)), (1, cI x1), (2, cI x2)]) X.1 X.2.1 dX0_moveScene_1 rfl hl (by decide) rfl (fun ls hl => ?_)
  obtain ⟨n7, h⟩ := h
  exact w_X0_moveScene_L2 hg X K hr hlk n7 o0 x1 x2 0 M _ _ _ k_o0 w (lv_sub hl [1, 2, 3, 0] rfl) h
theorem dX0_timesIn_0 : decode cX0_timesIn 0 = .ok (.iconst 0, 1) := by decide +kernel
theorem dX0_timesIn_1 : decode cX0_timesIn 1 = .ok (.istore_n 3, 1) := by decide +kernel
theorem dX0_timesIn_2 : decode cX0_timesIn 2 = .ok (.iconst 0, 1) := by decide +kernel
theorem dX0_timesIn_3 : decode cX0_timesIn 3 = .ok (.istore 4, 2) := by decide +kernel
theorem dX0_timesIn_5 : decode cX0_timesIn 5 = .ok (.iload 4, 2) := by decide +kernel
theorem dX0_timesIn_7 : decode cX0_timesIn 7 = .ok (.aload_n 0, 1) := by decide +kernel
theorem dX0_timesIn_8 : decode cX0_timesIn 8 = .ok (.getfield 9, 3) := by decide +kernel
theorem dX0_timesIn_11 : decode cX0_timesIn 11 = .ok (.if_icmp .ge 22, 3) := by decide +kernel
theorem dX0_timesIn_14 : decode cX0_timesIn 14 = .ok (.aload_n 1, 1) := by decide +kernel
theorem dX0_timesIn_15 : decode cX0_timesIn 15 = .ok (.iload 4, 2) := by decide +kernel
theorem dX0_timesIn_17 : decode cX0_timesIn 17 = .ok (.invokevirtual 46, 3) := by decide +kernel
theorem dX0_timesIn_20 : decode cX0_timesIn 20 = .ok (.iload_n 2, 1) := by decide +kernel
theorem dX0_timesIn_21 : decode cX0_timesIn 21 = .ok (.if_icmp .ne 6, 3) := by decide +kernel
theorem dX0_timesIn_24 : decode cX0_timesIn 24 = .ok (.iinc 3 1, 3) := by decide +kernel
theorem dX0_timesIn_27 : decode cX0_timesIn 27 = .ok (.iinc 4 1, 3) := by decide +kernel
theorem dX0_timesIn_30 : decode cX0_timesIn 30 = .ok (.goto (-25), 3) := by decide +kernel
theorem dX0_timesIn_33 : decode cX0_timesIn 33 = .ok (.iload_n 3, 1) := by decide +kernel
theorem dX0_timesIn_34 : decode cX0_timesIn 34 = .ok (.ireturn, 1) := by decide +kernel
set_option maxRecDepth 20000 in
theorem ggX0_timesIn_X4_get : GoodIn wsX0_timesIn wsX4_get := goodIn_r _ [6, 7, 14] (by decide +kernel) (by decide +kernel)
set_option maxRecDepth 20000 in
theorem gX0_timesIn_X4_get : GoodIn wsX0_timesIn (wsV RX0 46 RX4 yX4_get wsX4_get) := goodIn_app (goodIn_of _ (by decide +kernel)) ggX0_timesIn_X4_get
theorem iX0_timesIn_0 : ∀ w ∈ u_ws RX0 TX0 6, w ∈ wsX0_timesIn := fun w h => List.mem_cons_of_mem _ (List.mem_append_left _ (List.mem_append_right _ (h)))
set_option maxHeartbeats 4000000 in
set_option maxRecDepth 100000 in
theorem w_X0_timesIn_L5 {p : Program} {l : Launch} {e : Env} {s : State} {m : MethodId} {args : Array Value} {below : List Frame} {meth : Method} {c : Code} {E : EE} {g : GG} {ad : Nat → Nat} (hg : gwf g) (X : CallFix p m c cX0_timesIn 5 s args wsX0_timesIn RX0) (K : Kn E s) (hr : meth.sig.returnType = (some .int)) (hlk : meth.locks = false) {Q : Int → Mm → Prop} : ∀ (n : Nat) (o0 : Nat) (o1 : Nat) (x2 : Int) (x3 : Int) (x4 : Int) (M : Mm) (H : Heap) (locs : List Loc) (ls : Array Slot), gk g o0 = 0 → gk g o1 = 4 → Rw E g ad M s.heap H locs → lv_has ls 5 [(0, .ref (ad o0)), (1, .ref (ad o1)), (2, cI x2), (3, cI x3), (4, cI x4)] → p_X0_timesIn_L5 g n o0 o1 x2 x3 x4 M Q → W p l e rmX0_timesIn s m args below meth c H locs 0 0 (MQ below (QI E g ad Q) args s 0 0 (Rg g ad)) (F0 m 5 ls []) := by
  intro n
  induction n with
  | zero =>
    intro o0 o1 x2 x3 x4 M H locs ls k_o0 k_o1 w hl h
    exact absurd h (by unfold p_X0_timesIn_L5; exact id)
  | succ n ih =>
    intro o0 o1 x2 x3 x4 M H locs ls k_o0 k_o1 w hl h
    unfold p_X0_timesIn_L5 at h
    refine lv_iload X.1 X.2.1 dX0_timesIn_5 (lv_at hl 4 rfl) ?_
    refine lv_aload_n X.1 X.2.1 dX0_timesIn_7 rfl (lv_at hl 0 rfl) ?_
    refine r_geti (N := 6) (T := TX0) (kz := 5) X K w iX0_timesIn_0 k_o0 rfl (by decide) 5 (by decide) rfl rfl rfl (List.mem_of_getElem? (i := 1) rfl) dX0_timesIn_8 ?_
    obtain ⟨i0, i1, h1, h2⟩ := h
    refine r_icmp_ge (tgt := 33) X i0 i1 dX0_timesIn_11 (by decide) (fun cc => ?_) (fun cc => ?_)
    · have h := h1 cc
      refine lv_iload_n X.1 X.2.1 dX0_timesIn_33 rfl (lv_at hl 3 rfl) ?_
      exact r_ireturn X hr hlk K w h dX0_timesIn_34
    · have h := h2 cc
      refine lv_aload_n X.1 X.2.1 dX0_timesIn_14 rfl (lv_at hl 1 rfl) ?_
      refine lv_iload X.1 X.2.1 dX0_timesIn_15 (lv_at hl 4 rfl) ?_
      refine q_i (x_V (As := [cI x4]) (rest := []) X K w (c_X4_get hg k_o1 h) (cwV 1 X.2.2.2.2 gX0_timesIn_X4_get rfl rfl rfl (by decide +kernel) ⟨Nat.le_of_ble_eq_true rfl, Nat.le_of_ble_eq_true rfl⟩) k_o1 (by decide) rfl rfl hl rfl (Nat.le_of_ble_eq_true rfl) dX0_timesIn_17 ⟨Nat.le_of_ble_eq_true rfl, Nat.le_of_ble_eq_true rfl⟩) w (fun r2 M1 H locs h w => ?_)
      refine lv_iload_n X.1 X.2.1 dX0_timesIn_20 rfl (lv_at hl 2 rfl) ?_
      obtain ⟨i0, i1, h1, h2⟩ := h
      refine r_icmp_ne (tgt := 27) X i0 i1 dX0_timesIn_21 (by decide) (fun cc => ?_) (fun cc => ?_)
      · have h := h1 cc
        refine r_iinc (lv' := [(4, cI (x4 + 1)), (0, .ref (ad o0)), (1, .ref (ad o1)), (2, cI x2), (3, cI x3)]) X hl (k := 4) rfl (by decide) dX0_timesIn_27 rfl (fun ls hl => ?_)
        refine lv_goto (tgt := 5) X.1 X.2.1 dX0_timesIn_30 (by decide) ?_
        exact ih o0 o1 x2 x3 (x4 + 1) M1 _ _ _ k_o0 k_o1 w (lv_sub hl [1, 2, 3, 4, 0] rfl) h
      · have h := h2 cc
        refine r_iinc (lv' := [(3, cI (x3 + 1)), (0, .ref (ad o0)), (1, .ref (ad o1)), (2, cI x2), (4, cI x4)]) X hl (k := 3) rfl (by decide) dX0_timesIn_24 rfl (fun ls hl => ?_)
        refine r_iinc (lv' := [(4, cI (x4 + 1)), (3, cI (x3 + 1)), (0, .ref (ad o0)), (1, .ref (ad o1)), (2, cI x2)]) X hl (k := 4) rfl (by decide) dX0_timesIn_27 rfl (fun ls hl => ?_)
        refine lv_goto (tgt := 5) X.1 X.2.1 dX0_timesIn_30 (by decide) ?_
        exact ih o0 o1 x2 (x3 + 1) (x4 + 1) M1 _ _ _ k_o0 k_o1 w (lv_sub hl [2, 3, 4, 1, 0] rfl) h
set_option maxHeartbeats 4000000 in
set_option maxRecDepth 100000 in
theorem c_X0_timesIn {E : EE} {l : Launch} {g : GG} {ad : Nat → Nat} (hg : gwf g) {o0 : Nat} {o1 : Nat} {x2 : Int} {M : Mm} {Q : Int → Mm → Prop} (k_o0 : gk g o0 = 0) (k_o1 : gk g o1 = 4) (h : p_X0_timesIn g o0 o1 x2 M Q) : Ct E l yX0_timesIn wsX0_timesIn rmX0_timesIn g ad [.ref (ad o0), .ref (ad o1), cI x2] M (QI E g ad Q) := by
  refine ent (cc := cX0_timesIn) (maxL := 5) (ret := (some .int)) (own := RX0) (by decide +kernel) rfl rfl (Nat.le_of_ble_eq_true rfl) ?_
  intro p e s m below meth c ls X hr hlk K w hl
  have hl : lv_has ls 5 [(0, .ref (ad o0)), (1, .ref (ad o1)), (2, cI x2)] := hl
  unfold p_X0_timesIn at h
  refine r_iconst X dX0_timesIn_0 ?_
  refine lv_istore_n (lv' := [(3, cI 0), (0, .ref (ad o0)), (1, .ref (ad o1)), (2, cI x2)]) X.1 X.2.1 dX0_timesIn_1 rfl hl (by decide) rfl (fun ls hl => ?_)
  refine r_iconst X dX0_timesIn_2 ?_
  refine lv_istore (lv' := [(4, cI 0), (3, cI 0), (0, .ref (ad o0)), (1, .ref (ad o1)), (2, cI x2)]) X.1 X.2.1 dX0_timesIn_3 hl (by decide) rfl (fun ls hl => ?_)
  obtain ⟨n3, h⟩ := h
  exact w_X0_timesIn_L5 hg X K hr hlk n3 o0 o1 x2 0 0 M _ _ _ k_o0 k_o1 w (lv_sub hl [2, 3, 4, 1, 0] rfl) h
theorem dX0_sizeOfScene_0 : decode cX0_sizeOfScene 0 = .ok (.aload_n 0, 1) := by decide +kernel
theorem dX0_sizeOfScene_1 : decode cX0_sizeOfScene 1 = .ok (.aload_n 0, 1) := by decide +kernel
theorem dX0_sizeOfScene_2 : decode cX0_sizeOfScene 2 = .ok (.getfield 27, 3) := by decide +kernel
theorem dX0_sizeOfScene_5 : decode cX0_sizeOfScene 5 = .ok (.iload_n 1, 1) := by decide +kernel
theorem dX0_sizeOfScene_6 : decode cX0_sizeOfScene 6 = .ok (.invokevirtual 70, 3) := by decide +kernel
theorem dX0_sizeOfScene_9 : decode cX0_sizeOfScene 9 = .ok (.ireturn, 1) := by decide +kernel
set_option maxRecDepth 20000 in
theorem ggX0_sizeOfScene_X0_timesIn : GoodIn wsX0_sizeOfScene wsX0_timesIn := goodIn_r _ [6, 7, 8, 9, 10, 11, 12, 13, 14, 15, 16, 17, 18, 19, 20] (by decide +kernel) (by decide +kernel)
set_option maxRecDepth 20000 in
theorem gX0_sizeOfScene_X0_timesIn : GoodIn wsX0_sizeOfScene (wsV RX0 70 RX0 yX0_timesIn wsX0_timesIn) := goodIn_app (goodIn_of _ (by decide +kernel)) ggX0_sizeOfScene_X0_timesIn
theorem iX0_sizeOfScene_0 : ∀ w ∈ u_ws RX0 TX0 6, w ∈ wsX0_sizeOfScene := fun w h => List.mem_cons_of_mem _ (List.mem_append_left _ (List.mem_append_right _ (h)))
set_option maxHeartbeats 4000000 in
set_option maxRecDepth 100000 in
theorem c_X0_sizeOfScene {E : EE} {l : Launch} {g : GG} {ad : Nat → Nat} (hg : gwf g) {o0 : Nat} {x1 : Int} {M : Mm} {Q : Int → Mm → Prop} (k_o0 : gk g o0 = 0) (h : p_X0_sizeOfScene g o0 x1 M Q) : Ct E l yX0_sizeOfScene wsX0_sizeOfScene rmX0_sizeOfScene g ad [.ref (ad o0), cI x1] M (QI E g ad Q) := by
  refine ent (cc := cX0_sizeOfScene) (maxL := 2) (ret := (some .int)) (own := RX0) (by decide +kernel) rfl rfl (Nat.le_of_ble_eq_true rfl) ?_
  intro p e s m below meth c ls X hr hlk K w hl
  have hl : lv_has ls 2 [(0, .ref (ad o0)), (1, cI x1)] := hl
  unfold p_X0_sizeOfScene at h
  refine lv_aload_n X.1 X.2.1 dX0_sizeOfScene_0 rfl (lv_at hl 0 rfl) ?_
  refine lv_aload_n X.1 X.2.1 dX0_sizeOfScene_1 rfl (lv_at hl 0 rfl) ?_
  refine r_getr (N := 6) (T := TX0) X K w iX0_sizeOfScene_0 k_o0 rfl (by decide) 2 (by decide) rfl rfl (List.mem_of_getElem? (i := 1) rfl) dX0_sizeOfScene_2 ?_
  have k1 : gk g (o0 + 3) = 4 := gch hg k_o0 (by decide) 2 (by decide) rfl rfl
  refine lv_iload_n X.1 X.2.1 dX0_sizeOfScene_5 rfl (lv_at hl 1 rfl) ?_
  refine q_i (x_V (As := [.ref (ad (o0 + 3)), cI x1]) (rest := []) X K w (c_X0_timesIn hg k_o0 k1 h) (cwV 2 X.2.2.2.2 gX0_sizeOfScene_X0_timesIn rfl rfl rfl (by decide +kernel) ⟨Nat.le_of_ble_eq_true rfl, Nat.le_of_ble_eq_true rfl⟩) k_o0 (by decide) rfl rfl hl rfl (Nat.le_of_ble_eq_true rfl) dX0_sizeOfScene_6 ⟨Nat.le_of_ble_eq_true rfl, Nat.le_of_ble_eq_true rfl⟩) w (fun r3 M2 H locs h w => ?_)
  exact r_ireturn X hr hlk K w h dX0_sizeOfScene_9
theorem dX0_sizeOfSound_0 : decode cX0_sizeOfSound 0 = .ok (.aload_n 0, 1) := by decide +kernel
theorem dX0_sizeOfSound_1 : decode cX0_sizeOfSound 1 = .ok (.aload_n 0, 1) := by decide +kernel
theorem dX0_sizeOfSound_2 : decode cX0_sizeOfSound 2 = .ok (.getfield 30, 3) := by decide +kernel
theorem dX0_sizeOfSound_5 : decode cX0_sizeOfSound 5 = .ok (.iload_n 1, 1) := by decide +kernel
theorem dX0_sizeOfSound_6 : decode cX0_sizeOfSound 6 = .ok (.invokevirtual 70, 3) := by decide +kernel
theorem dX0_sizeOfSound_9 : decode cX0_sizeOfSound 9 = .ok (.ireturn, 1) := by decide +kernel
set_option maxRecDepth 20000 in
theorem ggX0_sizeOfSound_X0_timesIn : GoodIn wsX0_sizeOfSound wsX0_timesIn := goodIn_r _ [6, 7, 8, 9, 10, 11, 12, 13, 14, 15, 16, 17, 18, 19, 20] (by decide +kernel) (by decide +kernel)
set_option maxRecDepth 20000 in
theorem gX0_sizeOfSound_X0_timesIn : GoodIn wsX0_sizeOfSound (wsV RX0 70 RX0 yX0_timesIn wsX0_timesIn) := goodIn_app (goodIn_of _ (by decide +kernel)) ggX0_sizeOfSound_X0_timesIn
theorem iX0_sizeOfSound_0 : ∀ w ∈ u_ws RX0 TX0 6, w ∈ wsX0_sizeOfSound := fun w h => List.mem_cons_of_mem _ (List.mem_append_left _ (List.mem_append_right _ (h)))
set_option maxHeartbeats 4000000 in
set_option maxRecDepth 100000 in
theorem c_X0_sizeOfSound {E : EE} {l : Launch} {g : GG} {ad : Nat → Nat} (hg : gwf g) {o0 : Nat} {x1 : Int} {M : Mm} {Q : Int → Mm → Prop} (k_o0 : gk g o0 = 0) (h : p_X0_sizeOfSound g o0 x1 M Q) : Ct E l yX0_sizeOfSound wsX0_sizeOfSound rmX0_sizeOfSound g ad [.ref (ad o0), cI x1] M (QI E g ad Q) := by
  refine ent (cc := cX0_sizeOfSound) (maxL := 2) (ret := (some .int)) (own := RX0) (by decide +kernel) rfl rfl (Nat.le_of_ble_eq_true rfl) ?_
  intro p e s m below meth c ls X hr hlk K w hl
  have hl : lv_has ls 2 [(0, .ref (ad o0)), (1, cI x1)] := hl
  unfold p_X0_sizeOfSound at h
  refine lv_aload_n X.1 X.2.1 dX0_sizeOfSound_0 rfl (lv_at hl 0 rfl) ?_
  refine lv_aload_n X.1 X.2.1 dX0_sizeOfSound_1 rfl (lv_at hl 0 rfl) ?_
  refine r_getr (N := 6) (T := TX0) X K w iX0_sizeOfSound_0 k_o0 rfl (by decide) 3 (by decide) rfl rfl (List.mem_of_getElem? (i := 1) rfl) dX0_sizeOfSound_2 ?_
  have k1 : gk g (o0 + 5) = 4 := gch hg k_o0 (by decide) 3 (by decide) rfl rfl
  refine lv_iload_n X.1 X.2.1 dX0_sizeOfSound_5 rfl (lv_at hl 1 rfl) ?_
  refine q_i (x_V (As := [.ref (ad (o0 + 5)), cI x1]) (rest := []) X K w (c_X0_timesIn hg k_o0 k1 h) (cwV 2 X.2.2.2.2 gX0_sizeOfSound_X0_timesIn rfl rfl rfl (by decide +kernel) ⟨Nat.le_of_ble_eq_true rfl, Nat.le_of_ble_eq_true rfl⟩) k_o0 (by decide) rfl rfl hl rfl (Nat.le_of_ble_eq_true rfl) dX0_sizeOfSound_6 ⟨Nat.le_of_ble_eq_true rfl, Nat.le_of_ble_eq_true rfl⟩) w (fun r3 M2 H locs h w => ?_)
  exact r_ireturn X hr hlk K w h dX0_sizeOfSound_9
theorem dX0_firstTick_0 : decode cX0_firstTick 0 = .ok (.iconst 0, 1) := by decide +kernel
theorem dX0_firstTick_1 : decode cX0_firstTick 1 = .ok (.istore_n 2, 1) := by decide +kernel
theorem dX0_firstTick_2 : decode cX0_firstTick 2 = .ok (.iload_n 2, 1) := by decide +kernel
theorem dX0_firstTick_3 : decode cX0_firstTick 3 = .ok (.aload_n 0, 1) := by decide +kernel
theorem dX0_firstTick_4 : decode cX0_firstTick 4 = .ok (.getfield 9, 3) := by decide +kernel
theorem dX0_firstTick_7 : decode cX0_firstTick 7 = .ok (.if_icmp .ge 30, 3) := by decide +kernel
theorem dX0_firstTick_10 : decode cX0_firstTick 10 = .ok (.aload_n 0, 1) := by decide +kernel
theorem dX0_firstTick_11 : decode cX0_firstTick 11 = .ok (.getfield 27, 3) := by decide +kernel
theorem dX0_firstTick_14 : decode cX0_firstTick 14 = .ok (.iload_n 2, 1) := by decide +kernel
theorem dX0_firstTick_15 : decode cX0_firstTick 15 = .ok (.invokevirtual 46, 3) := by decide +kernel
theorem dX0_firstTick_18 : decode cX0_firstTick 18 = .ok (.iload_n 1, 1) := by decide +kernel
theorem dX0_firstTick_19 : decode cX0_firstTick 19 = .ok (.if_icmp .ne 12, 3) := by decide +kernel
theorem dX0_firstTick_22 : decode cX0_firstTick 22 = .ok (.aload_n 0, 1) := by decide +kernel
theorem dX0_firstTick_23 : decode cX0_firstTick 23 = .ok (.getfield 23, 3) := by decide +kernel
theorem dX0_firstTick_26 : decode cX0_firstTick 26 = .ok (.iload_n 2, 1) := by decide +kernel
theorem dX0_firstTick_27 : decode cX0_firstTick 27 = .ok (.invokevirtual 46, 3) := by decide +kernel
theorem dX0_firstTick_30 : decode cX0_firstTick 30 = .ok (.ireturn, 1) := by decide +kernel
theorem dX0_firstTick_31 : decode cX0_firstTick 31 = .ok (.iinc 2 1, 3) := by decide +kernel
theorem dX0_firstTick_34 : decode cX0_firstTick 34 = .ok (.goto (-32), 3) := by decide +kernel
theorem dX0_firstTick_37 : decode cX0_firstTick 37 = .ok (.bipush (-5), 2) := by decide +kernel
theorem dX0_firstTick_39 : decode cX0_firstTick 39 = .ok (.ireturn, 1) := by decide +kernel
set_option maxRecDepth 20000 in
theorem ggX0_firstTick_X4_get : GoodIn wsX0_firstTick wsX4_get := goodIn_r _ [8, 9, 16] (by decide +kernel) (by decide +kernel)
set_option maxRecDepth 20000 in
theorem gX0_firstTick_X4_get : GoodIn wsX0_firstTick (wsV RX0 46 RX4 yX4_get wsX4_get) := goodIn_app (goodIn_of _ (by decide +kernel)) ggX0_firstTick_X4_get
theorem iX0_firstTick_0 : ∀ w ∈ u_ws RX0 TX0 6, w ∈ wsX0_firstTick := fun w h => List.mem_cons_of_mem _ (List.mem_append_left _ (List.mem_append_right _ (h)))
set_option maxHeartbeats 4000000 in
set_option maxRecDepth 100000 in
theorem w_X0_firstTick_L2 {p : Program} {l : Launch} {e : Env} {s : State} {m : MethodId} {args : Array Value} {below : List Frame} {meth : Method} {c : Code} {E : EE} {g : GG} {ad : Nat → Nat} (hg : gwf g) (X : CallFix p m c cX0_firstTick 3 s args wsX0_firstTick RX0) (K : Kn E s) (hr : meth.sig.returnType = (some .int)) (hlk : meth.locks = false) {Q : Int → Mm → Prop} : ∀ (n : Nat) (o0 : Nat) (x1 : Int) (x2 : Int) (M : Mm) (H : Heap) (locs : List Loc) (ls : Array Slot), gk g o0 = 0 → Rw E g ad M s.heap H locs → lv_has ls 3 [(0, .ref (ad o0)), (1, cI x1), (2, cI x2)] → p_X0_firstTick_L2 g n o0 x1 x2 M Q → W p l e rmX0_firstTick s m args below meth c H locs 0 0 (MQ below (QI E g ad Q) args s 0 0 (Rg g ad)) (F0 m 2 ls []) := by
  intro n
  induction n with
  | zero =>
    intro o0 x1 x2 M H locs ls k_o0 w hl h
    exact absurd h (by unfold p_X0_firstTick_L2; exact id)
  | succ n ih =>
    intro o0 x1 x2 M H locs ls k_o0 w hl h
    unfold p_X0_firstTick_L2 at h
    refine lv_iload_n X.1 X.2.1 dX0_firstTick_2 rfl (lv_at hl 2 rfl) ?_
    refine lv_aload_n X.1 X.2.1 dX0_firstTick_3 rfl (lv_at hl 0 rfl) ?_
    refine r_geti (N := 6) (T := TX0) (kz := 5) X K w iX0_firstTick_0 k_o0 rfl (by decide) 5 (by decide) rfl rfl rfl (List.mem_of_getElem? (i := 1) rfl) dX0_firstTick_4 ?_
    obtain ⟨i0, i1, h1, h2⟩ := h
    refine r_icmp_ge (tgt := 37) X i0 i1 dX0_firstTick_7 (by decide) (fun cc => ?_) (fun cc => ?_)
    · have h := h1 cc
      refine r_bipush X dX0_firstTick_37 (by decide +kernel) ?_
      exact r_ireturn X hr hlk K w h dX0_firstTick_39
    · have h := h2 cc
      refine lv_aload_n X.1 X.2.1 dX0_firstTick_10 rfl (lv_at hl 0 rfl) ?_
      refine r_getr (N := 6) (T := TX0) X K w iX0_firstTick_0 k_o0 rfl (by decide) 2 (by decide) rfl rfl (List.mem_of_getElem? (i := 2) rfl) dX0_firstTick_11 ?_
      have k1 : gk g (o0 + 3) = 4 := gch hg k_o0 (by decide) 2 (by decide) rfl rfl
      refine lv_iload_n X.1 X.2.1 dX0_firstTick_14 rfl (lv_at hl 2 rfl) ?_
      refine q_i (x_V (As := [cI x2]) (rest := []) X K w (c_X4_get hg k1 h) (cwV 1 X.2.2.2.2 gX0_firstTick_X4_get rfl rfl rfl (by decide +kernel) ⟨Nat.le_of_ble_eq_true rfl, Nat.le_of_ble_eq_true rfl⟩) k1 (by decide) rfl rfl hl rfl (Nat.le_of_ble_eq_true rfl) dX0_firstTick_15 ⟨Nat.le_of_ble_eq_true rfl, Nat.le_of_ble_eq_true rfl⟩) w (fun r3 M2 H locs h w => ?_)
      refine lv_iload_n X.1 X.2.1 dX0_firstTick_18 rfl (lv_at hl 1 rfl) ?_
      obtain ⟨i0, i1, h1, h2⟩ := h
      refine r_icmp_ne (tgt := 31) X i0 i1 dX0_firstTick_19 (by decide) (fun cc => ?_) (fun cc => ?_)
      · have h := h1 cc
        refine r_iinc (lv' := [(2, cI (x2 + 1)), (0, .ref (ad o0)), (1, cI x1)]) X hl (k := 2) rfl (by decide) dX0_firstTick_31 rfl (fun ls hl => ?_)
        refine lv_goto (tgt := 2) X.1 X.2.1 dX0_firstTick_34 (by decide) ?_
        exact ih o0 x1 (x2 + 1) M2 _ _ _ k_o0 w (lv_sub hl [1, 2, 0] rfl) h
      · have h := h2 cc
        refine lv_aload_n X.1 X.2.1 dX0_firstTick_22 rfl (lv_at hl 0 rfl) ?_
        refine r_getr (N := 6) (T := TX0) X K w iX0_firstTick_0 k_o0 rfl (by decide) 1 (by decide) rfl rfl (List.mem_of_getElem? (i := 3) rfl) dX0_firstTick_23 ?_
        have k4 : gk g (o0 + 1) = 4 := gch hg k_o0 (by decide) 1 (by decide) rfl rfl
        refine lv_iload_n X.1 X.2.1 dX0_firstTick_26 rfl (lv_at hl 2 rfl) ?_
        refine q_i (x_V (As := [cI x2]) (rest := []) X K w (c_X4_get hg k4 h) (cwV 1 X.2.2.2.2 gX0_firstTick_X4_get rfl rfl rfl (by decide +kernel) ⟨Nat.le_of_ble_eq_true rfl, Nat.le_of_ble_eq_true rfl⟩) k4 (by decide) rfl rfl hl rfl (Nat.le_of_ble_eq_true rfl) dX0_firstTick_27 ⟨Nat.le_of_ble_eq_true rfl, Nat.le_of_ble_eq_true rfl⟩) w (fun r6 M5 H locs h w => ?_)
        exact r_ireturn X hr hlk K w h dX0_firstTick_30
set_option maxHeartbeats 4000000 in
set_option maxRecDepth 100000 in
theorem c_X0_firstTick {E : EE} {l : Launch} {g : GG} {ad : Nat → Nat} (hg : gwf g) {o0 : Nat} {x1 : Int} {M : Mm} {Q : Int → Mm → Prop} (k_o0 : gk g o0 = 0) (h : p_X0_firstTick g o0 x1 M Q) : Ct E l yX0_firstTick wsX0_firstTick rmX0_firstTick g ad [.ref (ad o0), cI x1] M (QI E g ad Q) := by
  refine ent (cc := cX0_firstTick) (maxL := 3) (ret := (some .int)) (own := RX0) (by decide +kernel) rfl rfl (Nat.le_of_ble_eq_true rfl) ?_
  intro p e s m below meth c ls X hr hlk K w hl
  have hl : lv_has ls 3 [(0, .ref (ad o0)), (1, cI x1)] := hl
  unfold p_X0_firstTick at h
  refine r_iconst X dX0_firstTick_0 ?_
  refine lv_istore_n (lv' := [(2, cI 0), (0, .ref (ad o0)), (1, cI x1)]) X.1 X.2.1 dX0_firstTick_1 rfl hl (by decide) rfl (fun ls hl => ?_)
  obtain ⟨n7, h⟩ := h
  exact w_X0_firstTick_L2 hg X K hr hlk n7 o0 x1 0 M _ _ _ k_o0 w (lv_sub hl [1, 2, 0] rfl) h
theorem dX0_greatestEnd_0 : decode cX0_greatestEnd 0 = .ok (.bipush (-5), 2) := by decide +kernel
theorem dX0_greatestEnd_2 : decode cX0_greatestEnd 2 = .ok (.istore_n 2, 1) := by decide +kernel
theorem dX0_greatestEnd_3 : decode cX0_greatestEnd 3 = .ok (.iconst 0, 1) := by decide +kernel
theorem dX0_greatestEnd_4 : decode cX0_greatestEnd 4 = .ok (.istore_n 3, 1) := by decide +kernel
theorem dX0_greatestEnd_5 : decode cX0_greatestEnd 5 = .ok (.iload_n 3, 1) := by decide +kernel
theorem dX0_greatestEnd_6 : decode cX0_greatestEnd 6 = .ok (.aload_n 0, 1) := by decide +kernel
theorem dX0_greatestEnd_7 : decode cX0_greatestEnd 7 = .ok (.getfield 9, 3) := by decide +kernel
theorem dX0_greatestEnd_10 : decode cX0_greatestEnd 10 = .ok (.if_icmp .ge 31, 3) := by decide +kernel
theorem dX0_greatestEnd_13 : decode cX0_greatestEnd 13 = .ok (.aload_n 0, 1) := by decide +kernel
theorem dX0_greatestEnd_14 : decode cX0_greatestEnd 14 = .ok (.getfield 27, 3) := by decide +kernel
theorem dX0_greatestEnd_17 : decode cX0_greatestEnd 17 = .ok (.iload_n 3, 1) := by decide +kernel
theorem dX0_greatestEnd_18 : decode cX0_greatestEnd 18 = .ok (.invokevirtual 46, 3) := by decide +kernel
theorem dX0_greatestEnd_21 : decode cX0_greatestEnd 21 = .ok (.iload_n 1, 1) := by decide +kernel
theorem dX0_greatestEnd_22 : decode cX0_greatestEnd 22 = .ok (.if_icmp .ne 13, 3) := by decide +kernel
theorem dX0_greatestEnd_25 : decode cX0_greatestEnd 25 = .ok (.iload_n 2, 1) := by decide +kernel
theorem dX0_greatestEnd_26 : decode cX0_greatestEnd 26 = .ok (.aload_n 0, 1) := by decide +kernel
theorem dX0_greatestEnd_27 : decode cX0_greatestEnd 27 = .ok (.iload_n 3, 1) := by decide +kernel
theorem dX0_greatestEnd_28 : decode cX0_greatestEnd 28 = .ok (.invokevirtual 74, 3) := by decide +kernel
theorem dX0_greatestEnd_31 : decode cX0_greatestEnd 31 = .ok (.invokestatic 77, 3) := by decide +kernel
theorem dX0_greatestEnd_34 : decode cX0_greatestEnd 34 = .ok (.istore_n 2, 1) := by decide +kernel
theorem dX0_greatestEnd_35 : decode cX0_greatestEnd 35 = .ok (.iinc 3 1, 3) := by decide +kernel
theorem dX0_greatestEnd_38 : decode cX0_greatestEnd 38 = .ok (.goto (-33), 3) := by decide +kernel
theorem dX0_greatestEnd_41 : decode cX0_greatestEnd 41 = .ok (.iload_n 2, 1) := by decide +kernel
theorem dX0_greatestEnd_42 : decode cX0_greatestEnd 42 = .ok (.ireturn, 1) := by decide +kernel
set_option maxRecDepth 20000 in
theorem ggX0_greatestEnd_X0_endOf : GoodIn wsX0_greatestEnd wsX0_endOf := goodIn_r _ [17, 18, 19, 7, 8, 9, 10, 11, 12, 20, 21, 22, 23, 24, 25, 26] (by decide +kernel) (by decide +kernel)
set_option maxRecDepth 20000 in
theorem gX0_greatestEnd_X0_endOf : GoodIn wsX0_greatestEnd (wsV RX0 74 RX0 yX0_endOf wsX0_endOf) := goodIn_app (goodIn_of _ (by decide +kernel)) ggX0_greatestEnd_X0_endOf
set_option maxRecDepth 20000 in
theorem ggX0_greatestEnd_X4_get : GoodIn wsX0_greatestEnd wsX4_get := goodIn_r _ [11, 12, 26] (by decide +kernel) (by decide +kernel)
set_option maxRecDepth 20000 in
theorem gX0_greatestEnd_X4_get : GoodIn wsX0_greatestEnd (wsV RX0 46 RX4 yX4_get wsX4_get) := goodIn_app (goodIn_of _ (by decide +kernel)) ggX0_greatestEnd_X4_get
theorem iX0_greatestEnd_0 : ∀ w ∈ u_ws RX0 TX0 6, w ∈ wsX0_greatestEnd := fun w h => List.mem_cons_of_mem _ (List.mem_append_left _ (List.mem_append_right _ (h)))
set_option maxHeartbeats 4000000 in
set_option maxRecDepth 100000 in
theorem w_X0_greatestEnd_L5 {p : Program} {l : Launch} {e : Env} {s : State} {m : MethodId} {args : Array Value} {below : List Frame} {meth : Method} {c : Code} {E : EE} {g : GG} {ad : Nat → Nat} (hg : gwf g) (X : CallFix p m c cX0_greatestEnd 4 s args wsX0_greatestEnd RX0) (K : Kn E s) (hr : meth.sig.returnType = (some .int)) (hlk : meth.locks = false) {Q : Int → Mm → Prop} : ∀ (n : Nat) (o0 : Nat) (x1 : Int) (x2 : Int) (x3 : Int) (M : Mm) (H : Heap) (locs : List Loc) (ls : Array Slot), gk g o0 = 0 → Rw E g ad M s.heap H locs → lv_has ls 4 [(0, .ref (ad o0)), (1, cI x1), (2, cI x2), (3, cI x3)] → p_X0_greatestEnd_L5 g n o0 x1 x2 x3 M Q → W p l e rmX0_greatestEnd s m args below meth c H locs 0 0 (MQ below (QI E g ad Q) args s 0 0 (Rg g ad)) (F0 m 5 ls []) := by
  intro n
  induction n with
  | zero =>
    intro o0 x1 x2 x3 M H locs ls k_o0 w hl h
    exact absurd h (by unfold p_X0_greatestEnd_L5; exact id)
  | succ n ih =>
    intro o0 x1 x2 x3 M H locs ls k_o0 w hl h
    unfold p_X0_greatestEnd_L5 at h
    refine lv_iload_n X.1 X.2.1 dX0_greatestEnd_5 rfl (lv_at hl 3 rfl) ?_
    refine lv_aload_n X.1 X.2.1 dX0_greatestEnd_6 rfl (lv_at hl 0 rfl) ?_
    refine r_geti (N := 6) (T := TX0) (kz := 5) X K w iX0_greatestEnd_0 k_o0 rfl (by decide) 5 (by decide) rfl rfl rfl (List.mem_of_getElem? (i := 1) rfl) dX0_greatestEnd_7 ?_
    obtain ⟨i0, i1, h1, h2⟩ := h
    refine r_icmp_ge (tgt := 41) X i0 i1 dX0_greatestEnd_10 (by decide) (fun cc => ?_) (fun cc => ?_)
    · have h := h1 cc
      refine lv_iload_n X.1 X.2.1 dX0_greatestEnd_41 rfl (lv_at hl 2 rfl) ?_
      exact r_ireturn X hr hlk K w h dX0_greatestEnd_42
    · have h := h2 cc
      refine lv_aload_n X.1 X.2.1 dX0_greatestEnd_13 rfl (lv_at hl 0 rfl) ?_
      refine r_getr (N := 6) (T := TX0) X K w iX0_greatestEnd_0 k_o0 rfl (by decide) 2 (by decide) rfl rfl (List.mem_of_getElem? (i := 2) rfl) dX0_greatestEnd_14 ?_
      have k1 : gk g (o0 + 3) = 4 := gch hg k_o0 (by decide) 2 (by decide) rfl rfl
      refine lv_iload_n X.1 X.2.1 dX0_greatestEnd_17 rfl (lv_at hl 3 rfl) ?_
      refine q_i (x_V (As := [cI x3]) (rest := []) X K w (c_X4_get hg k1 h) (cwV 1 X.2.2.2.2 gX0_greatestEnd_X4_get rfl rfl rfl (by decide +kernel) ⟨Nat.le_of_ble_eq_true rfl, Nat.le_of_ble_eq_true rfl⟩) k1 (by decide) rfl rfl hl rfl (Nat.le_of_ble_eq_true rfl) dX0_greatestEnd_18 ⟨Nat.le_of_ble_eq_true rfl, Nat.le_of_ble_eq_true rfl⟩) w (fun r3 M2 H locs h w => ?_)
      refine lv_iload_n X.1 X.2.1 dX0_greatestEnd_21 rfl (lv_at hl 1 rfl) ?_
      obtain ⟨i0, i1, h1, h2⟩ := h
      refine r_icmp_ne (tgt := 35) X i0 i1 dX0_greatestEnd_22 (by decide) (fun cc => ?_) (fun cc => ?_)
      · have h := h1 cc
        refine r_iinc (lv' := [(3, cI (x3 + 1)), (0, .ref (ad o0)), (1, cI x1), (2, cI x2)]) X hl (k := 3) rfl (by decide) dX0_greatestEnd_35 rfl (fun ls hl => ?_)
        refine lv_goto (tgt := 5) X.1 X.2.1 dX0_greatestEnd_38 (by decide) ?_
        exact ih o0 x1 x2 (x3 + 1) M2 _ _ _ k_o0 w (lv_sub hl [1, 2, 3, 0] rfl) h
      · have h := h2 cc
        refine lv_iload_n X.1 X.2.1 dX0_greatestEnd_25 rfl (lv_at hl 2 rfl) ?_
        refine lv_aload_n X.1 X.2.1 dX0_greatestEnd_26 rfl (lv_at hl 0 rfl) ?_
        refine lv_iload_n X.1 X.2.1 dX0_greatestEnd_27 rfl (lv_at hl 3 rfl) ?_
        refine q_i (x_V (As := [cI x3]) (rest := [cI x2]) X K w (c_X0_endOf hg k_o0 h) (cwV 1 X.2.2.2.2 gX0_greatestEnd_X0_endOf rfl rfl rfl (by decide +kernel) ⟨Nat.le_of_ble_eq_true rfl, Nat.le_of_ble_eq_true rfl⟩) k_o0 (by decide) rfl rfl hl rfl (Nat.le_of_ble_eq_true rfl) dX0_greatestEnd_28 ⟨Nat.le_of_ble_eq_true rfl, Nat.le_of_ble_eq_true rfl⟩) w (fun r5 M4 H locs h w => ?_)
        obtain ⟨i0, i1, h⟩ := h
        refine r_max X hl i0 i1 (List.mem_of_getElem? (i := 3) rfl) (List.mem_of_getElem? (i := 4) rfl) (List.mem_of_getElem? (i := 5) rfl) (List.mem_of_getElem? (i := 6) rfl) (by decide) (Nat.le_of_ble_eq_true rfl) ⟨by decide, by decide⟩ dX0_greatestEnd_31 ?_
        refine lv_istore_n (lv' := [(2, cI (max x2 r5)), (0, .ref (ad o0)), (1, cI x1), (3, cI x3)]) X.1 X.2.1 dX0_greatestEnd_34 rfl hl (by decide) rfl (fun ls hl => ?_)
        refine r_iinc (lv' := [(3, cI (x3 + 1)), (2, cI (max x2 r5)), (0, .ref (ad o0)), (1, cI x1)]) X hl (k := 3) rfl (by decide) dX0_greatestEnd_35 rfl (fun ls hl => ?_)
        refine lv_goto (tgt := 5) X.1 X.2.1 dX0_greatestEnd_38 (by decide) ?_
        exact ih o0 x1 (max x2 r5) (x3 + 1) M4 _ _ _ k_o0 w (lv_sub hl [2, 3, 1, 0] rfl) h
set_option maxHeartbeats 4000000 in
set_option maxRecDepth 100000 in
theorem c_X0_greatestEnd {E : EE} {l : Launch} {g : GG} {ad : Nat → Nat} (hg : gwf g) {o0 : Nat} {x1 : Int} {M : Mm} {Q : Int → Mm → Prop} (k_o0 : gk g o0 = 0) (h : p_X0_greatestEnd g o0 x1 M Q) : Ct E l yX0_greatestEnd wsX0_greatestEnd rmX0_greatestEnd g ad [.ref (ad o0), cI x1] M (QI E g ad Q) := by
  refine ent (cc := cX0_greatestEnd) (maxL := 4) (ret := (some .int)) (own := RX0) (by decide +kernel) rfl rfl (Nat.le_of_ble_eq_true rfl) ?_
  intro p e s m below meth c ls X hr hlk K w hl
  have hl : lv_has ls 4 [(0, .ref (ad o0)), (1, cI x1)] := hl
  unfold p_X0_greatestEnd at h
  refine r_bipush X dX0_greatestEnd_0 (by decide +kernel) ?_
  refine lv_istore_n (lv' := [(2, cI (-5)), (0, .ref (ad o0)), (1, cI x1)]) X.1 X.2.1 dX0_greatestEnd_2 rfl hl (by decide) rfl (fun ls hl => ?_)
  refine r_iconst X dX0_greatestEnd_3 ?_
  refine lv_istore_n (lv' := [(3, cI 0), (2, cI (-5)), (0, .ref (ad o0)), (1, cI x1)]) X.1 X.2.1 dX0_greatestEnd_4 rfl hl (by decide) rfl (fun ls hl => ?_)
  obtain ⟨n6, h⟩ := h
  exact w_X0_greatestEnd_L5 hg X K hr hlk n6 o0 x1 (-5) 0 M _ _ _ k_o0 w (lv_sub hl [2, 3, 1, 0] rfl) h
theorem dX7_isBelow_0 : decode cX7_isBelow 0 = .ok (.iload_n 0, 1) := by decide +kernel
theorem dX7_isBelow_1 : decode cX7_isBelow 1 = .ok (.ifCond .lt 12, 3) := by decide +kernel
theorem dX7_isBelow_4 : decode cX7_isBelow 4 = .ok (.iload_n 0, 1) := by decide +kernel
theorem dX7_isBelow_5 : decode cX7_isBelow 5 = .ok (.iload_n 1, 1) := by decide +kernel
theorem dX7_isBelow_6 : decode cX7_isBelow 6 = .ok (.if_icmp .ge 7, 3) := by decide +kernel
theorem dX7_isBelow_9 : decode cX7_isBelow 9 = .ok (.iconst 1, 1) := by decide +kernel
theorem dX7_isBelow_10 : decode cX7_isBelow 10 = .ok (.goto 4, 3) := by decide +kernel
theorem dX7_isBelow_13 : decode cX7_isBelow 13 = .ok (.iconst 0, 1) := by decide +kernel
theorem dX7_isBelow_14 : decode cX7_isBelow 14 = .ok (.ireturn, 1) := by decide +kernel
set_option maxHeartbeats 4000000 in
set_option maxRecDepth 100000 in
theorem c_X7_isBelow {E : EE} {l : Launch} {g : GG} {ad : Nat → Nat} (hg : gwf g) {x0 : Int} {x1 : Int} {M : Mm} {Q : Int → Mm → Prop} (h : p_X7_isBelow g x0 x1 M Q) : Ct E l yX7_isBelow wsX7_isBelow rmX7_isBelow g ad [cI x0, cI x1] M (QI E g ad Q) := by
  refine ent (cc := cX7_isBelow) (maxL := 2) (ret := (some .boolean)) (own := RX7) (by decide +kernel) rfl rfl (Nat.le_of_ble_eq_true rfl) ?_
  intro p e s m below meth c ls X hr hlk K w hl
  have hl : lv_has ls 2 [(0, cI x0), (1, cI x1)] := hl
  unfold p_X7_isBelow at h
  refine lv_iload_n X.1 X.2.1 dX7_isBelow_0 rfl (lv_at hl 0 rfl) ?_
  obtain ⟨i0, h1, h2⟩ := h
  refine r_if_lt (tgt := 13) X i0 dX7_isBelow_1 (by decide) (fun cc => ?_) (fun cc => ?_)
  · have h := h1 cc
    refine r_iconst X dX7_isBelow_13 ?_
    exact r_zreturn X hr hlk K w (by decide +kernel) h dX7_isBelow_14
  · have h := h2 cc
    refine lv_iload_n X.1 X.2.1 dX7_isBelow_4 rfl (lv_at hl 0 rfl) ?_
    refine lv_iload_n X.1 X.2.1 dX7_isBelow_5 rfl (lv_at hl 1 rfl) ?_
    obtain ⟨i0, i1, h1, h2⟩ := h
    refine r_icmp_ge (tgt := 13) X i0 i1 dX7_isBelow_6 (by decide) (fun cc => ?_) (fun cc => ?_)
    · have h := h1 cc
      refine r_iconst X dX7_isBelow_13 ?_
      exact r_zreturn X hr hlk K w (by decide +kernel) h dX7_isBelow_14
    · have h := h2 cc
      refine r_iconst X dX7_isBelow_9 ?_
      refine lv_goto (tgt := 14) X.1 X.2.1 dX7_isBelow_10 (by decide) ?_
      exact r_zreturn X hr hlk K w (by decide +kernel) h dX7_isBelow_14
