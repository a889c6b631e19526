/-! contracts of the methods, by gen.py: X3_nearestHand, X3_isLent, X3_reasonToMiss, X3_play, X3_miss, X3_doCue, X3_playTake, X3_playsOfSound, X3_missedCue, X4_sum, X5_soundRow, X6_append, X7_isSoundValue -/
theorem dX3_nearestHand_0 : decode cX3_nearestHand 0 = .ok (.bipush (-5), 2) := by decide +kernel
theorem dX3_nearestHand_2 : decode cX3_nearestHand 2 = .ok (.istore_n 3, 1) := by decide +kernel
theorem dX3_nearestHand_3 : decode cX3_nearestHand 3 = .ok (.iconst 5, 1) := by decide +kernel
theorem dX3_nearestHand_4 : decode cX3_nearestHand 4 = .ok (.istore 4, 2) := by decide +kernel
theorem dX3_nearestHand_6 : decode cX3_nearestHand 6 = .ok (.iconst 0, 1) := by decide +kernel
theorem dX3_nearestHand_7 : decode cX3_nearestHand 7 = .ok (.istore 5, 2) := by decide +kernel
theorem dX3_nearestHand_9 : decode cX3_nearestHand 9 = .ok (.iload 5, 2) := by decide +kernel
theorem dX3_nearestHand_11 : decode cX3_nearestHand 11 = .ok (.aload_n 0, 1) := by decide +kernel
theorem dX3_nearestHand_12 : decode cX3_nearestHand 12 = .ok (.getfield 53, 3) := by decide +kernel
theorem dX3_nearestHand_15 : decode cX3_nearestHand 15 = .ok (.if_icmp .ge 48, 3) := by decide +kernel
theorem dX3_nearestHand_18 : decode cX3_nearestHand 18 = .ok (.aload_n 0, 1) := by decide +kernel
theorem dX3_nearestHand_19 : decode cX3_nearestHand 19 = .ok (.iload_n 1, 1) := by decide +kernel
theorem dX3_nearestHand_20 : decode cX3_nearestHand 20 = .ok (.iload 5, 2) := by decide +kernel
theorem dX3_nearestHand_22 : decode cX3_nearestHand 22 = .ok (.invokevirtual 130, 3) := by decide +kernel
theorem dX3_nearestHand_25 : decode cX3_nearestHand 25 = .ok (.istore 6, 2) := by decide +kernel
theorem dX3_nearestHand_27 : decode cX3_nearestHand 27 = .ok (.iload 6, 2) := by decide +kernel
theorem dX3_nearestHand_29 : decode cX3_nearestHand 29 = .ok (.iload 4, 2) := by decide +kernel
theorem dX3_nearestHand_31 : decode cX3_nearestHand 31 = .ok (.if_icmp .ge 26, 3) := by decide +kernel
theorem dX3_nearestHand_34 : decode cX3_nearestHand 34 = .ok (.iload_n 2, 1) := by decide +kernel
theorem dX3_nearestHand_35 : decode cX3_nearestHand 35 = .ok (.aload_n 0, 1) := by decide +kernel
theorem dX3_nearestHand_36 : decode cX3_nearestHand 36 = .ok (.getfield 29, 3) := by decide +kernel
theorem dX3_nearestHand_39 : decode cX3_nearestHand 39 = .ok (.iload 5, 2) := by decide +kernel
theorem dX3_nearestHand_41 : decode cX3_nearestHand 41 = .ok (.invokevirtual 72, 3) := by decide +kernel
theorem dX3_nearestHand_44 : decode cX3_nearestHand 44 = .ok (.isub, 1) := by decide +kernel
theorem dX3_nearestHand_45 : decode cX3_nearestHand 45 = .ok (.iload 6, 2) := by decide +kernel
theorem dX3_nearestHand_47 : decode cX3_nearestHand 47 = .ok (.if_icmp .lt 10, 3) := by decide +kernel
theorem dX3_nearestHand_50 : decode cX3_nearestHand 50 = .ok (.iload 5, 2) := by decide +kernel
theorem dX3_nearestHand_52 : decode cX3_nearestHand 52 = .ok (.istore_n 3, 1) := by decide +kernel
theorem dX3_nearestHand_53 : decode cX3_nearestHand 53 = .ok (.iload 6, 2) := by decide +kernel
theorem dX3_nearestHand_55 : decode cX3_nearestHand 55 = .ok (.istore 4, 2) := by decide +kernel
theorem dX3_nearestHand_57 : decode cX3_nearestHand 57 = .ok (.iinc 5 1, 3) := by decide +kernel
theorem dX3_nearestHand_60 : decode cX3_nearestHand 60 = .ok (.goto (-51), 3) := by decide +kernel
theorem dX3_nearestHand_63 : decode cX3_nearestHand 63 = .ok (.iload_n 3, 1) := by decide +kernel
theorem dX3_nearestHand_64 : decode cX3_nearestHand 64 = .ok (.ireturn, 1) := by decide +kernel
set_option maxRecDepth 20000 in
theorem ggX3_nearestHand_X3_wayTo : GoodIn wsX3_nearestHand wsX3_wayTo := goodIn_r _ [7, 8, 9, 10, 11, 12, 13, 14, 15, 16, 17, 18, 19, 20, 21, 22, 23, 24, 25, 26, 27, 28, 29, 30, 31, 32, 33, 34] (by decide +kernel) (by decide +kernel)
set_option maxRecDepth 20000 in
theorem gX3_nearestHand_X3_wayTo : GoodIn wsX3_nearestHand (wsV RX3 130 RX3 yX3_wayTo wsX3_wayTo) := goodIn_app (goodIn_of _ (by decide +kernel)) ggX3_nearestHand_X3_wayTo
set_option maxRecDepth 20000 in
theorem ggX3_nearestHand_X4_get : GoodIn wsX3_nearestHand wsX4_get := goodIn_r _ [17, 18, 34] (by decide +kernel) (by decide +kernel)
set_option maxRecDepth 20000 in
theorem gX3_nearestHand_X4_get : GoodIn wsX3_nearestHand (wsV RX3 72 RX4 yX4_get wsX4_get) := goodIn_app (goodIn_of _ (by decide +kernel)) ggX3_nearestHand_X4_get
theorem iX3_nearestHand_3 : ∀ w ∈ u_ws RX3 TX3 15, w ∈ wsX3_nearestHand := fun w h => List.mem_cons_of_mem _ (List.mem_append_left _ (List.mem_append_right _ (h)))
set_option maxHeartbeats 4000000 in
set_option maxRecDepth 100000 in
theorem w_X3_nearestHand_L9 {p : Program} {l : Launch} {e : Env} {s : State} {m : MethodId} {args : Array Value} {below : List Frame} {meth : Method} {c : Code} {E : EE} {g : GG} {ad : Nat → Nat} (hg : gwf g) (X : CallFix p m c cX3_nearestHand 7 s args wsX3_nearestHand RX3) (K : Kn E s) (hr : meth.sig.returnType = (some .int)) (hlk : meth.locks = false) {Q : Int → Mm → Prop} : ∀ (n : Nat) (o0 : Nat) (x1 : Int) (x2 : Int) (x3 : Int) (x4 : Int) (x5 : Int) (M : Mm) (H : Heap) (locs : List Loc) (ls : Array Slot), gk g o0 = 3 → Rw E g ad M s.heap H locs → lv_has ls 7 [(0, .ref (ad o0)), (1, cI x1), (2, cI x2), (3, cI x3), (4, cI x4), (5, cI x5)] → p_X3_nearestHand_L9 g n o0 x1 x2 x3 x4 x5 M Q → W p l e rmX3_nearestHand s m args below meth c H locs 0 0 (MQ below (QI E g ad Q) args s 0 0 (Rg g ad)) (F0 m 9 ls []) := by
  intro n
  induction n with
  | zero =>
    intro o0 x1 x2 x3 x4 x5 M H locs ls k_o0 w hl h
    exact absurd h (by unfold p_X3_nearestHand_L9; exact id)
  | succ n ih =>
    intro o0 x1 x2 x3 x4 x5 M H locs ls k_o0 w hl h
    unfold p_X3_nearestHand_L9 at h
    refine lv_iload X.1 X.2.1 dX3_nearestHand_9 (lv_at hl 5 rfl) ?_
    refine lv_aload_n X.1 X.2.1 dX3_nearestHand_11 rfl (lv_at hl 0 rfl) ?_
    refine r_geti (N := 15) (T := TX3) (kz := 12) X K w iX3_nearestHand_3 k_o0 rfl (by decide) 12 (by decide) rfl rfl rfl (List.mem_of_getElem? (i := 1) rfl) dX3_nearestHand_12 ?_
    obtain ⟨i0, i1, h1, h2⟩ := h
    refine r_icmp_ge (tgt := 63) X i0 i1 dX3_nearestHand_15 (by decide) (fun cc => ?_) (fun cc => ?_)
    · have h := h1 cc
      refine lv_iload_n X.1 X.2.1 dX3_nearestHand_63 rfl (lv_at hl 3 rfl) ?_
      exact r_ireturn X hr hlk K w h dX3_nearestHand_64
    · have h := h2 cc
      refine lv_aload_n X.1 X.2.1 dX3_nearestHand_18 rfl (lv_at hl 0 rfl) ?_
      refine lv_iload_n X.1 X.2.1 dX3_nearestHand_19 rfl (lv_at hl 1 rfl) ?_
      refine lv_iload X.1 X.2.1 dX3_nearestHand_20 (lv_at hl 5 rfl) ?_
      refine q_i (x_V (As := [cI x1, cI x5]) (rest := []) X K w (c_X3_wayTo hg k_o0 h) (cwV 2 X.2.2.2.2 gX3_nearestHand_X3_wayTo rfl rfl rfl (by decide +kernel) ⟨Nat.le_of_ble_eq_true rfl, Nat.le_of_ble_eq_true rfl⟩) k_o0 (by decide) rfl rfl hl rfl (Nat.le_of_ble_eq_true rfl) dX3_nearestHand_22 ⟨Nat.le_of_ble_eq_true rfl, Nat.le_of_ble_eq_true rfl⟩) w (fun r2 M1 H locs h w => ?_)
      refine lv_istore (lv' := [(6, cI r2), (0, .ref (ad o0)), (1, cI x1), (2, cI x2), (3, cI x3), (4, cI x4), (5, cI x5)]) X.1 X.2.1 dX3_nearestHand_25 hl (by decide) rfl (fun ls hl => ?_)
      refine lv_iload X.1 X.2.1 dX3_nearestHand_27 (lv_at hl 0 rfl) ?_
      refine lv_iload X.1 X.2.1 dX3_nearestHand_29 (lv_at hl 5 rfl) ?_
      obtain ⟨i0, i1, h1, h2⟩ := h
      refine r_icmp_ge (tgt := 57) X i0 i1 dX3_nearestHand_31 (by decide) (fun cc => ?_) (fun cc => ?_)
      · have h := h1 cc
        refine r_iinc (lv' := [(5, cI (x5 + 1)), (6, cI r2), (0, .ref (ad o0)), (1, cI x1), (2, cI x2), (3, cI x3), (4, cI x4)]) X hl (k := 6) rfl (by decide) dX3_nearestHand_57 rfl (fun ls hl => ?_)
        refine lv_goto (tgt := 9) X.1 X.2.1 dX3_nearestHand_60 (by decide) ?_
        exact ih o0 x1 x2 x3 x4 (x5 + 1) M1 _ _ _ k_o0 w (lv_sub hl [2, 3, 4, 5, 6, 0] rfl) h
      · have h := h2 cc
        refine lv_iload_n X.1 X.2.1 dX3_nearestHand_34 rfl (lv_at hl 3 rfl) ?_
        refine lv_aload_n X.1 X.2.1 dX3_nearestHand_35 rfl (lv_at hl 1 rfl) ?_
        refine r_getr (N := 15) (T := TX3) X K w iX3_nearestHand_3 k_o0 rfl (by decide) 4 (by decide) rfl rfl (List.mem_of_getElem? (i := 2) rfl) dX3_nearestHand_36 ?_
        have k3 : gk g (o0 + 9) = 4 := gch hg k_o0 (by decide) 4 (by decide) rfl rfl
        refine lv_iload X.1 X.2.1 dX3_nearestHand_39 (lv_at hl 6 rfl) ?_
        refine q_i (x_V (As := [cI x5]) (rest := [cI x2]) X K w (c_X4_get hg k3 h) (cwV 1 X.2.2.2.2 gX3_nearestHand_X4_get rfl rfl rfl (by decide +kernel) ⟨Nat.le_of_ble_eq_true rfl, Nat.le_of_ble_eq_true rfl⟩) k3 (by decide) rfl rfl hl rfl (Nat.le_of_ble_eq_true rfl) dX3_nearestHand_41 ⟨Nat.le_of_ble_eq_true rfl, Nat.le_of_ble_eq_true rfl⟩) w (fun r5 M4 H locs h w => ?_)
        refine r_isub X dX3_nearestHand_44 ?_
        refine lv_iload X.1 X.2.1 dX3_nearestHand_45 (lv_at hl 0 rfl) ?_
        obtain ⟨i0, i1, h1, h2⟩ := h
        refine r_icmp_lt (tgt := 57) X i0 i1 dX3_nearestHand_47 (by decide) (fun cc => ?_) (fun cc => ?_)
        · have h := h1 cc
          refine r_iinc (lv' := [(5, cI (x5 + 1)), (6, cI r2), (0, .ref (ad o0)), (1, cI x1), (2, cI x2), (3, cI x3), (4, cI x4)]) X hl (k := 6) rfl (by decide) dX3_nearestHand_57 rfl (fun ls hl => ?_)
          refine lv_goto (tgt := 9) X.1 X.2.1 dX3_nearestHand_60 (by decide) ?_
          exact ih o0 x1 x2 x3 x4 (x5 + 1) M4 _ _ _ k_o0 w (lv_sub hl [2, 3, 4, 5, 6, 0] rfl) h
        · have h := h2 cc
          refine lv_iload X.1 X.2.1 dX3_nearestHand_50 (lv_at hl 6 rfl) ?_
          refine lv_istore_n (lv' := [(3, cI x5), (6, cI r2), (0, .ref (ad o0)), (1, cI x1), (2, cI x2), (4, cI x4), (5, cI x5)]) X.1 X.2.1 dX3_nearestHand_52 rfl hl (by decide) rfl (fun ls hl => ?_)
          refine lv_iload X.1 X.2.1 dX3_nearestHand_53 (lv_at hl 1 rfl) ?_
          refine lv_istore (lv' := [(4, cI r2), (3, cI x5), (6, cI r2), (0, .ref (ad o0)), (1, cI x1), (2, cI x2), (5, cI x5)]) X.1 X.2.1 dX3_nearestHand_55 hl (by decide) rfl (fun ls hl => ?_)
          refine r_iinc (lv' := [(5, cI (x5 + 1)), (4, cI r2), (3, cI x5), (6, cI r2), (0, .ref (ad o0)), (1, cI x1), (2, cI x2)]) X hl (k := 6) rfl (by decide) dX3_nearestHand_57 rfl (fun ls hl => ?_)
          refine lv_goto (tgt := 9) X.1 X.2.1 dX3_nearestHand_60 (by decide) ?_
          exact ih o0 x1 x2 x5 r2 (x5 + 1) M4 _ _ _ k_o0 w (lv_sub hl [4, 5, 6, 2, 1, 0] rfl) h
set_option maxHeartbeats 4000000 in
set_option maxRecDepth 100000 in
theorem c_X3_nearestHand {E : EE} {l : Launch} {g : GG} {ad : Nat → Nat} (hg : gwf g) {o0 : Nat} {x1 : Int} {x2 : Int} {M : Mm} {Q : Int → Mm → Prop} (k_o0 : gk g o0 = 3) (h : p_X3_nearestHand g o0 x1 x2 M Q) : Ct E l yX3_nearestHand wsX3_nearestHand rmX3_nearestHand g ad [.ref (ad o0), cI x1, cI x2] M (QI E g ad Q) := by
  refine ent (cc := cX3_nearestHand) (maxL := 7) (ret := (some .int)) (own := RX3) (by decide +kernel) rfl rfl (Nat.le_of_ble_eq_true rfl) ?_
  intro p e s m below meth c ls X hr hlk K w hl
  have hl : lv_has ls 7 [(0, .ref (ad o0)), (1, cI x1), (2, cI x2)] := hl
  unfold p_X3_nearestHand at h
  refine r_bipush X dX3_nearestHand_0 (by decide +kernel) ?_
  refine lv_istore_n (lv' := [(3, cI (-5)), (0, .ref (ad o0)), (1, cI x1), (2, cI x2)]) X.1 X.2.1 dX3_nearestHand_2 rfl hl (by decide) rfl (fun ls hl => ?_)
  refine r_iconst X dX3_nearestHand_3 ?_
  refine lv_istore (lv' := [(4, cI 5), (3, cI (-5)), (0, .ref (ad o0)), (1, cI x1), (2, cI x2)]) X.1 X.2.1 dX3_nearestHand_4 hl (by decide) rfl (fun ls hl => ?_)
  refine r_iconst X dX3_nearestHand_6 ?_
  refine lv_istore (lv' := [(5, cI 0), (4, cI 5), (3, cI (-5)), (0, .ref (ad o0)), (1, cI x1), (2, cI x2)]) X.1 X.2.1 dX3_nearestHand_7 hl (by decide) rfl (fun ls hl => ?_)
  obtain ⟨n6, h⟩ := h
  exact w_X3_nearestHand_L9 hg X K hr hlk n6 o0 x1 x2 (-5) 5 0 M _ _ _ k_o0 w (lv_sub hl [3, 4, 5, 2, 1, 0] rfl) h
theorem dX3_isLent_0 : decode cX3_isLent 0 = .ok (.aload_n 0, 1) := by decide +kernel
theorem dX3_isLent_1 : decode cX3_isLent 1 = .ok (.getfield 20, 3) := by decide +kernel
theorem dX3_isLent_4 : decode cX3_isLent 4 = .ok (.iload_n 1, 1) := by decide +kernel
theorem dX3_isLent_5 : decode cX3_isLent 5 = .ok (.invokevirtual 72, 3) := by decide +kernel
theorem dX3_isLent_8 : decode cX3_isLent 8 = .ok (.istore_n 3, 1) := by decide +kernel
theorem dX3_isLent_9 : decode cX3_isLent 9 = .ok (.iload_n 3, 1) := by decide +kernel
theorem dX3_isLent_10 : decode cX3_isLent 10 = .ok (.iconst (-1), 1) := by decide +kernel
theorem dX3_isLent_11 : decode cX3_isLent 11 = .ok (.if_icmp .eq 12, 3) := by decide +kernel
theorem dX3_isLent_14 : decode cX3_isLent 14 = .ok (.iload_n 3, 1) := by decide +kernel
theorem dX3_isLent_15 : decode cX3_isLent 15 = .ok (.iload_n 2, 1) := by decide +kernel
theorem dX3_isLent_16 : decode cX3_isLent 16 = .ok (.if_icmp .eq 7, 3) := by decide +kernel
theorem dX3_isLent_19 : decode cX3_isLent 19 = .ok (.iconst 1, 1) := by decide +kernel
theorem dX3_isLent_20 : decode cX3_isLent 20 = .ok (.goto 4, 3) := by decide +kernel
theorem dX3_isLent_23 : decode cX3_isLent 23 = .ok (.iconst 0, 1) := by decide +kernel
theorem dX3_isLent_24 : decode cX3_isLent 24 = .ok (.ireturn, 1) := by decide +kernel
set_option maxRecDepth 20000 in
theorem ggX3_isLent_X4_get : GoodIn wsX3_isLent wsX4_get := goodIn_r _ [6, 7, 23] (by decide +kernel) (by decide +kernel)
set_option maxRecDepth 20000 in
theorem gX3_isLent_X4_get : GoodIn wsX3_isLent (wsV RX3 72 RX4 yX4_get wsX4_get) := goodIn_app (goodIn_of _ (by decide +kernel)) ggX3_isLent_X4_get
theorem iX3_isLent_3 : ∀ w ∈ u_ws RX3 TX3 15, w ∈ wsX3_isLent := fun w h => List.mem_cons_of_mem _ (List.mem_append_left _ (List.mem_append_right _ (h)))
set_option maxHeartbeats 4000000 in
set_option maxRecDepth 100000 in
theorem c_X3_isLent {E : EE} {l : Launch} {g : GG} {ad : Nat → Nat} (hg : gwf g) {o0 : Nat} {x1 : Int} {x2 : Int} {M : Mm} {Q : Int → Mm → Prop} (k_o0 : gk g o0 = 3) (h : p_X3_isLent g o0 x1 x2 M Q) : Ct E l yX3_isLent wsX3_isLent rmX3_isLent g ad [.ref (ad o0), cI x1, cI x2] M (QI E g ad Q) := by
  refine ent (cc := cX3_isLent) (maxL := 4) (ret := (some .boolean)) (own := RX3) (by decide +kernel) rfl rfl (Nat.le_of_ble_eq_true rfl) ?_
  intro p e s m below meth c ls X hr hlk K w hl
  have hl : lv_has ls 4 [(0, .ref (ad o0)), (1, cI x1), (2, cI x2)] := hl
  unfold p_X3_isLent at h
  refine lv_aload_n X.1 X.2.1 dX3_isLent_0 rfl (lv_at hl 0 rfl) ?_
  refine r_getr (N := 15) (T := TX3) X K w iX3_isLent_3 k_o0 rfl (by decide) 1 (by decide) rfl rfl (List.mem_of_getElem? (i := 1) rfl) dX3_isLent_1 ?_
  have k1 : gk g (o0 + 3) = 4 := gch hg k_o0 (by decide) 1 (by decide) rfl rfl
  refine lv_iload_n X.1 X.2.1 dX3_isLent_4 rfl (lv_at hl 1 rfl) ?_
  refine q_i (x_V (As := [cI x1]) (rest := []) X K w (c_X4_get hg k1 h) (cwV 1 X.2.2.2.2 gX3_isLent_X4_get rfl rfl rfl (by decide +kernel) ⟨Nat.le_of_ble_eq_true rfl, Nat.le_of_ble_eq_true rfl⟩) k1 (by decide) rfl rfl hl rfl (Nat.le_of_ble_eq_true rfl) dX3_isLent_5 ⟨Nat.le_of_ble_eq_true rfl, Nat.le_of_ble_eq_true rfl⟩) w (fun r3 M2 H locs h w => ?_)
  refine lv_istore_n (lv' := [(3, cI r3), (0, .ref (ad o0)), (1, cI x1), (2, cI x2)]) X.1 X.2.1 dX3_isLent_8 rfl hl (by decide) rfl (fun ls hl => ?_)
  refine lv_iload_n X.1 X.2.1 dX3_isLent_9 rfl (lv_at hl 0 rfl) ?_
  refine r_iconst X dX3_isLent_10 ?_
  obtain ⟨i0, h1, h2⟩ := h
  refine r_icmp_eq (tgt := 23) X i0 ⟨by decide, by decide⟩ dX3_isLent_11 (by decide) (fun cc => ?_) (fun cc => ?_)
  · have h := h1 cc
    refine r_iconst X dX3_isLent_23 ?_
    exact r_zreturn X hr hlk K w (by decide +kernel) h dX3_isLent_24
  · have h := h2 cc
    refine lv_iload_n X.1 X.2.1 dX3_isLent_14 rfl (lv_at hl 0 rfl) ?_
    refine lv_iload_n X.1 X.2.1 dX3_isLent_15 rfl (lv_at hl 3 rfl) ?_
    obtain ⟨i0, i1, h1, h2⟩ := h
    refine r_icmp_eq (tgt := 23) X i0 i1 dX3_isLent_16 (by decide) (fun cc => ?_) (fun cc => ?_)
    · have h := h1 cc
      refine r_iconst X dX3_isLent_23 ?_
      exact r_zreturn X hr hlk K w (by decide +kernel) h dX3_isLent_24
    · have h := h2 cc
      refine r_iconst X dX3_isLent_19 ?_
      refine lv_goto (tgt := 24) X.1 X.2.1 dX3_isLent_20 (by decide) ?_
      exact r_zreturn X hr hlk K w (by decide +kernel) h dX3_isLent_24
theorem dX3_reasonToMiss_0 : decode cX3_reasonToMiss 0 = .ok (.aload_n 2, 1) := by decide +kernel
theorem dX3_reasonToMiss_1 : decode cX3_reasonToMiss 1 = .ok (.getfield 83, 3) := by decide +kernel
theorem dX3_reasonToMiss_4 : decode cX3_reasonToMiss 4 = .ok (.getfield 96, 3) := by decide +kernel
theorem dX3_reasonToMiss_7 : decode cX3_reasonToMiss 7 = .ok (.iload_n 1, 1) := by decide +kernel
theorem dX3_reasonToMiss_8 : decode cX3_reasonToMiss 8 = .ok (.invokevirtual 72, 3) := by decide +kernel
theorem dX3_reasonToMiss_11 : decode cX3_reasonToMiss 11 = .ok (.istore 4, 2) := by decide +kernel
theorem dX3_reasonToMiss_13 : decode cX3_reasonToMiss 13 = .ok (.aload_n 0, 1) := by decide +kernel
theorem dX3_reasonToMiss_14 : decode cX3_reasonToMiss 14 = .ok (.getfield 14, 3) := by decide +kernel
theorem dX3_reasonToMiss_17 : decode cX3_reasonToMiss 17 = .ok (.iload 4, 2) := by decide +kernel
theorem dX3_reasonToMiss_19 : decode cX3_reasonToMiss 19 = .ok (.invokevirtual 72, 3) := by decide +kernel
theorem dX3_reasonToMiss_22 : decode cX3_reasonToMiss 22 = .ok (.ifCond .gt 5, 3) := by decide +kernel
theorem dX3_reasonToMiss_25 : decode cX3_reasonToMiss 25 = .ok (.iconst 1, 1) := by decide +kernel
theorem dX3_reasonToMiss_26 : decode cX3_reasonToMiss 26 = .ok (.ireturn, 1) := by decide +kernel
theorem dX3_reasonToMiss_27 : decode cX3_reasonToMiss 27 = .ok (.aload_n 2, 1) := by decide +kernel
theorem dX3_reasonToMiss_28 : decode cX3_reasonToMiss 28 = .ok (.getfield 83, 3) := by decide +kernel
theorem dX3_reasonToMiss_31 : decode cX3_reasonToMiss 31 = .ok (.getfield 102, 3) := by decide +kernel
theorem dX3_reasonToMiss_34 : decode cX3_reasonToMiss 34 = .ok (.iload_n 1, 1) := by decide +kernel
theorem dX3_reasonToMiss_35 : decode cX3_reasonToMiss 35 = .ok (.invokevirtual 72, 3) := by decide +kernel
theorem dX3_reasonToMiss_38 : decode cX3_reasonToMiss 38 = .ok (.aload_n 0, 1) := by decide +kernel
theorem dX3_reasonToMiss_39 : decode cX3_reasonToMiss 39 = .ok (.getfield 23, 3) := by decide +kernel
theorem dX3_reasonToMiss_42 : decode cX3_reasonToMiss 42 = .ok (.iload 4, 2) := by decide +kernel
theorem dX3_reasonToMiss_44 : decode cX3_reasonToMiss 44 = .ok (.invokevirtual 72, 3) := by decide +kernel
theorem dX3_reasonToMiss_47 : decode cX3_reasonToMiss 47 = .ok (.isub, 1) := by decide +kernel
theorem dX3_reasonToMiss_48 : decode cX3_reasonToMiss 48 = .ok (.istore 5, 2) := by decide +kernel
theorem dX3_reasonToMiss_50 : decode cX3_reasonToMiss 50 = .ok (.aload_n 0, 1) := by decide +kernel
theorem dX3_reasonToMiss_51 : decode cX3_reasonToMiss 51 = .ok (.iload 4, 2) := by decide +kernel
theorem dX3_reasonToMiss_53 : decode cX3_reasonToMiss 53 = .ok (.aload_n 2, 1) := by decide +kernel
theorem dX3_reasonToMiss_54 : decode cX3_reasonToMiss 54 = .ok (.getfield 83, 3) := by decide +kernel
theorem dX3_reasonToMiss_57 : decode cX3_reasonToMiss 57 = .ok (.getfield 120, 3) := by decide +kernel
theorem dX3_reasonToMiss_60 : decode cX3_reasonToMiss 60 = .ok (.iload_n 1, 1) := by decide +kernel
theorem dX3_reasonToMiss_61 : decode cX3_reasonToMiss 61 = .ok (.invokevirtual 72, 3) := by decide +kernel
theorem dX3_reasonToMiss_64 : decode cX3_reasonToMiss 64 = .ok (.invokevirtual 123, 3) := by decide +kernel
theorem dX3_reasonToMiss_67 : decode cX3_reasonToMiss 67 = .ok (.ifCond .eq 10, 3) := by decide +kernel
theorem dX3_reasonToMiss_70 : decode cX3_reasonToMiss 70 = .ok (.aload_n 2, 1) := by decide +kernel
theorem dX3_reasonToMiss_71 : decode cX3_reasonToMiss 71 = .ok (.getfield 127, 3) := by decide +kernel
theorem dX3_reasonToMiss_74 : decode cX3_reasonToMiss 74 = .ok (.goto 4, 3) := by decide +kernel
theorem dX3_reasonToMiss_77 : decode cX3_reasonToMiss 77 = .ok (.iconst 0, 1) := by decide +kernel
theorem dX3_reasonToMiss_78 : decode cX3_reasonToMiss 78 = .ok (.istore 6, 2) := by decide +kernel
theorem dX3_reasonToMiss_80 : decode cX3_reasonToMiss 80 = .ok (.iload 5, 2) := by decide +kernel
theorem dX3_reasonToMiss_82 : decode cX3_reasonToMiss 82 = .ok (.iload 6, 2) := by decide +kernel
theorem dX3_reasonToMiss_84 : decode cX3_reasonToMiss 84 = .ok (.if_icmp .ge 5, 3) := by decide +kernel
theorem dX3_reasonToMiss_87 : decode cX3_reasonToMiss 87 = .ok (.iconst 2, 1) := by decide +kernel
theorem dX3_reasonToMiss_88 : decode cX3_reasonToMiss 88 = .ok (.ireturn, 1) := by decide +kernel
theorem dX3_reasonToMiss_89 : decode cX3_reasonToMiss 89 = .ok (.iload_n 3, 1) := by decide +kernel
theorem dX3_reasonToMiss_90 : decode cX3_reasonToMiss 90 = .ok (.bipush (-5), 2) := by decide +kernel
theorem dX3_reasonToMiss_92 : decode cX3_reasonToMiss 92 = .ok (.if_icmp .ne 7, 3) := by decide +kernel
theorem dX3_reasonToMiss_95 : decode cX3_reasonToMiss 95 = .ok (.iconst 3, 1) := by decide +kernel
theorem dX3_reasonToMiss_96 : decode cX3_reasonToMiss 96 = .ok (.goto 4, 3) := by decide +kernel
theorem dX3_reasonToMiss_99 : decode cX3_reasonToMiss 99 = .ok (.iconst 0, 1) := by decide +kernel
theorem dX3_reasonToMiss_100 : decode cX3_reasonToMiss 100 = .ok (.ireturn, 1) := by decide +kernel
set_option maxRecDepth 20000 in
theorem ggX3_reasonToMiss_X3_isLent : GoodIn wsX3_reasonToMiss wsX3_isLent := goodIn_r _ [13, 14, 3, 4, 5, 6, 7, 8, 32, 33, 34, 35, 36, 37, 38, 39, 40, 41, 42, 43, 44, 45, 46, 47] (by decide +kernel) (by decide +kernel)
set_option maxRecDepth 20000 in
theorem gX3_reasonToMiss_X3_isLent : GoodIn wsX3_reasonToMiss (wsV RX3 123 RX3 yX3_isLent wsX3_isLent) := goodIn_app (goodIn_of _ (by decide +kernel)) ggX3_reasonToMiss_X3_isLent
set_option maxRecDepth 20000 in
theorem ggX3_reasonToMiss_X4_get : GoodIn wsX3_reasonToMiss wsX4_get := goodIn_r _ [7, 8, 47] (by decide +kernel) (by decide +kernel)
set_option maxRecDepth 20000 in
theorem gX3_reasonToMiss_X4_get : GoodIn wsX3_reasonToMiss (wsV RX3 72 RX4 yX4_get wsX4_get) := goodIn_app (goodIn_of _ (by decide +kernel)) ggX3_reasonToMiss_X4_get
theorem iX3_reasonToMiss_0 : ∀ w ∈ u_ws RX0 TX0 6, w ∈ wsX3_reasonToMiss := fun w h => List.mem_cons_of_mem _ (List.mem_append_left _ (List.mem_append_left _ (List.mem_append_right _ (h))))
theorem iX3_reasonToMiss_3 : ∀ w ∈ u_ws RX3 TX3 15, w ∈ wsX3_reasonToMiss := fun w h => List.mem_cons_of_mem _ (List.mem_append_left _ (List.mem_append_right _ (h)))
theorem iX3_reasonToMiss_5 : ∀ w ∈ u_ws RX5 TX5 11, w ∈ wsX3_reasonToMiss := fun w h => List.mem_cons_of_mem _ (List.mem_append_left _ (List.mem_append_left _ (List.mem_append_left _ (List.mem_append_right _ (h)))))
set_option maxHeartbeats 4000000 in
set_option maxRecDepth 100000 in
theorem w_X3_reasonToMiss_J78 {p : Program} {l : Launch} {e : Env} {s : State} {m : MethodId} {args : Array Value} {below : List Frame} {meth : Method} {c : Code} {E : EE} {g : GG} {ad : Nat → Nat} (hg : gwf g) (X : CallFix p m c cX3_reasonToMiss 7 s args wsX3_reasonToMiss RX3) (K : Kn E s) (hr : meth.sig.returnType = (some .int)) (hlk : meth.locks = false) {Q : Int → Mm → Prop} : ∀ (x3 : Int) (x5 : Int) (y0 : Int) (M : Mm) (H : Heap) (locs : List Loc) (ls : Array Slot), Rw E g ad M s.heap H locs → lv_has ls 7 [(3, cI x3), (5, cI x5)] → p_X3_reasonToMiss_J78 g x3 x5 y0 M Q → W p l e rmX3_reasonToMiss s m args below meth c H locs 0 0 (MQ below (QI E g ad Q) args s 0 0 (Rg g ad)) (F0 m 78 ls [cI y0]) := by
  intro x3 x5 y0 M H locs ls w hl h
  unfold p_X3_reasonToMiss_J78 at h
  refine lv_istore (lv' := [(6, cI y0), (3, cI x3), (5, cI x5)]) X.1 X.2.1 dX3_reasonToMiss_78 hl (by decide) rfl (fun ls hl => ?_)
  refine lv_iload X.1 X.2.1 dX3_reasonToMiss_80 (lv_at hl 2 rfl) ?_
  refine lv_iload X.1 X.2.1 dX3_reasonToMiss_82 (lv_at hl 0 rfl) ?_
  obtain ⟨i0, i1, h1, h2⟩ := h
  refine r_icmp_ge (tgt := 89) X i0 i1 dX3_reasonToMiss_84 (by decide) (fun cc => ?_) (fun cc => ?_)
  · have h := h1 cc
    refine lv_iload_n X.1 X.2.1 dX3_reasonToMiss_89 rfl (lv_at hl 1 rfl) ?_
    refine r_bipush X dX3_reasonToMiss_90 (by decide +kernel) ?_
    obtain ⟨i0, h1, h2⟩ := h
    refine r_icmp_ne (tgt := 99) X i0 ⟨by decide, by decide⟩ dX3_reasonToMiss_92 (by decide) (fun cc => ?_) (fun cc => ?_)
    · have h := h1 cc
      refine r_iconst X dX3_reasonToMiss_99 ?_
      exact r_ireturn X hr hlk K w h dX3_reasonToMiss_100
    · have h := h2 cc
      refine r_iconst X dX3_reasonToMiss_95 ?_
      refine lv_goto (tgt := 100) X.1 X.2.1 dX3_reasonToMiss_96 (by decide) ?_
      exact r_ireturn X hr hlk K w h dX3_reasonToMiss_100
  · have h := h2 cc
    refine r_iconst X dX3_reasonToMiss_87 ?_
    exact r_ireturn X hr hlk K w h dX3_reasonToMiss_88
set_option maxHeartbeats 4000000 in
set_option maxRecDepth 100000 in
theorem c_X3_reasonToMiss {E : EE} {l : Launch} {g : GG} {ad : Nat → Nat} (hg : gwf g) {o0 : Nat} {x1 : Int} {o2 : Nat} {x3 : Int} {M : Mm} {Q : Int → Mm → Prop} (k_o0 : gk g o0 = 3) (k_o2 : gk g o2 = 5) (h : p_X3_reasonToMiss g o0 x1 o2 x3 M Q) : Ct E l yX3_reasonToMiss wsX3_reasonToMiss rmX3_reasonToMiss g ad [.ref (ad o0), cI x1, .ref (ad o2), cI x3] M (QI E g ad Q) := by
  refine ent (cc := cX3_reasonToMiss) (maxL := 7) (ret := (some .int)) (own := RX3) (by decide +kernel) rfl rfl (Nat.le_of_ble_eq_true rfl) ?_
  intro p e s m below meth c ls X hr hlk K w hl
  have hl : lv_has ls 7 [(0, .ref (ad o0)), (1, cI x1), (2, .ref (ad o2)), (3, cI x3)] := hl
  unfold p_X3_reasonToMiss at h
  refine lv_aload_n X.1 X.2.1 dX3_reasonToMiss_0 rfl (lv_at hl 2 rfl) ?_
  refine r_getrN (N := 11) (T := TX5) X K w iX3_reasonToMiss_5 k_o2 rfl (by decide) 4 (by decide) rfl rfl (List.mem_of_getElem? (i := 15) rfl) dX3_reasonToMiss_1 ?_
  have k1 : gk g (o2 + 9) = 0 := gch hg k_o2 (by decide) 4 (by decide) rfl rfl
  refine r_getrN (N := 6) (T := TX0) X K w iX3_reasonToMiss_0 k1 rfl (by decide) 3 (by decide) rfl rfl (List.mem_of_getElem? (i := 4) rfl) dX3_reasonToMiss_4 ?_
  have k2 : gk g ((o2 + 9) + 5) = 4 := gch hg k1 (by decide) 3 (by decide) rfl rfl
  refine lv_iload_n X.1 X.2.1 dX3_reasonToMiss_7 rfl (lv_at hl 1 rfl) ?_
  refine q_i (x_V (As := [cI x1]) (rest := []) X K w (c_X4_get hg k2 h) (cwV 1 X.2.2.2.2 gX3_reasonToMiss_X4_get rfl rfl rfl (by decide +kernel) ⟨Nat.le_of_ble_eq_true rfl, Nat.le_of_ble_eq_true rfl⟩) k2 (by decide) rfl rfl hl rfl (Nat.le_of_ble_eq_true rfl) dX3_reasonToMiss_8 ⟨Nat.le_of_ble_eq_true rfl, Nat.le_of_ble_eq_true rfl⟩) w (fun r4 M3 H locs h w => ?_)
  refine lv_istore (lv' := [(4, cI r4), (0, .ref (ad o0)), (1, cI x1), (2, .ref (ad o2)), (3, cI x3)]) X.1 X.2.1 dX3_reasonToMiss_11 hl (by decide) rfl (fun ls hl => ?_)
  refine lv_aload_n X.1 X.2.1 dX3_reasonToMiss_13 rfl (lv_at hl 1 rfl) ?_
  refine r_getr (N := 15) (T := TX3) X K w iX3_reasonToMiss_3 k_o0 rfl (by decide) 0 (by decide) rfl rfl (List.mem_of_getElem? (i := 1) rfl) dX3_reasonToMiss_14 ?_
  have k5 : gk g (o0 + 1) = 4 := gch hg k_o0 (by decide) 0 (by decide) rfl rfl
  refine lv_iload X.1 X.2.1 dX3_reasonToMiss_17 (lv_at hl 0 rfl) ?_
  refine q_i (x_V (As := [cI r4]) (rest := []) X K w (c_X4_get hg k5 h) (cwV 1 X.2.2.2.2 gX3_reasonToMiss_X4_get rfl rfl rfl (by decide +kernel) ⟨Nat.le_of_ble_eq_true rfl, Nat.le_of_ble_eq_true rfl⟩) k5 (by decide) rfl rfl hl rfl (Nat.le_of_ble_eq_true rfl) dX3_reasonToMiss_19 ⟨Nat.le_of_ble_eq_true rfl, Nat.le_of_ble_eq_true rfl⟩) w (fun r7 M6 H locs h w => ?_)
  obtain ⟨i0, h1, h2⟩ := h
  refine r_if_gt (tgt := 27) X i0 dX3_reasonToMiss_22 (by decide) (fun cc => ?_) (fun cc => ?_)
  · have h := h1 cc
    refine lv_aload_n X.1 X.2.1 dX3_reasonToMiss_27 rfl (lv_at hl 3 rfl) ?_
    refine r_getrN (N := 11) (T := TX5) X K w iX3_reasonToMiss_5 k_o2 rfl (by decide) 4 (by decide) rfl rfl (List.mem_of_getElem? (i := 15) rfl) dX3_reasonToMiss_28 ?_
    have k8 : gk g (o2 + 9) = 0 := gch hg k_o2 (by decide) 4 (by decide) rfl rfl
    refine r_getrN (N := 6) (T := TX0) X K w iX3_reasonToMiss_0 k8 rfl (by decide) 1 (by decide) rfl rfl (List.mem_of_getElem? (i := 0) rfl) dX3_reasonToMiss_31 ?_
    have k9 : gk g ((o2 + 9) + 1) = 4 := gch hg k8 (by decide) 1 (by decide) rfl rfl
    refine lv_iload_n X.1 X.2.1 dX3_reasonToMiss_34 rfl (lv_at hl 2 rfl) ?_
    refine q_i (x_V (As := [cI x1]) (rest := []) X K w (c_X4_get hg k9 h) (cwV 1 X.2.2.2.2 gX3_reasonToMiss_X4_get rfl rfl rfl (by decide +kernel) ⟨Nat.le_of_ble_eq_true rfl, Nat.le_of_ble_eq_true rfl⟩) k9 (by decide) rfl rfl hl rfl (Nat.le_of_ble_eq_true rfl) dX3_reasonToMiss_35 ⟨Nat.le_of_ble_eq_true rfl, Nat.le_of_ble_eq_true rfl⟩) w (fun r11 M10 H locs h w => ?_)
    refine lv_aload_n X.1 X.2.1 dX3_reasonToMiss_38 rfl (lv_at hl 1 rfl) ?_
    refine r_getr (N := 15) (T := TX3) X K w iX3_reasonToMiss_3 k_o0 rfl (by decide) 2 (by decide) rfl rfl (List.mem_of_getElem? (i := 2) rfl) dX3_reasonToMiss_39 ?_
    have k12 : gk g (o0 + 5) = 4 := gch hg k_o0 (by decide) 2 (by decide) rfl rfl
    refine lv_iload X.1 X.2.1 dX3_reasonToMiss_42 (lv_at hl 0 rfl) ?_
    refine q_i (x_V (As := [cI r4]) (rest := [cI r11]) X K w (c_X4_get hg k12 h) (cwV 1 X.2.2.2.2 gX3_reasonToMiss_X4_get rfl rfl rfl (by decide +kernel) ⟨Nat.le_of_ble_eq_true rfl, Nat.le_of_ble_eq_true rfl⟩) k12 (by decide) rfl rfl hl rfl (Nat.le_of_ble_eq_true rfl) dX3_reasonToMiss_44 ⟨Nat.le_of_ble_eq_true rfl, Nat.le_of_ble_eq_true rfl⟩) w (fun r14 M13 H locs h w => ?_)
    refine r_isub X dX3_reasonToMiss_47 ?_
    refine lv_istore (lv' := [(5, cI (r11 - r14)), (4, cI r4), (0, .ref (ad o0)), (1, cI x1), (2, .ref (ad o2)), (3, cI x3)]) X.1 X.2.1 dX3_reasonToMiss_48 hl (by decide) rfl (fun ls hl => ?_)
    refine lv_aload_n X.1 X.2.1 dX3_reasonToMiss_50 rfl (lv_at hl 2 rfl) ?_
    refine lv_iload X.1 X.2.1 dX3_reasonToMiss_51 (lv_at hl 1 rfl) ?_
    refine lv_aload_n X.1 X.2.1 dX3_reasonToMiss_53 rfl (lv_at hl 4 rfl) ?_
    refine r_getrN (N := 11) (T := TX5) X K w iX3_reasonToMiss_5 k_o2 rfl (by decide) 4 (by decide) rfl rfl (List.mem_of_getElem? (i := 15) rfl) dX3_reasonToMiss_54 ?_
    have k15 : gk g (o2 + 9) = 0 := gch hg k_o2 (by decide) 4 (by decide) rfl rfl
    refine r_getrN (N := 6) (T := TX0) X K w iX3_reasonToMiss_0 k15 rfl (by decide) 2 (by decide) rfl rfl (List.mem_of_getElem? (i := 2) rfl) dX3_reasonToMiss_57 ?_
    have k16 : gk g ((o2 + 9) + 3) = 4 := gch hg k15 (by decide) 2 (by decide) rfl rfl
    refine lv_iload_n X.1 X.2.1 dX3_reasonToMiss_60 rfl (lv_at hl 3 rfl) ?_
    refine q_i (x_V (As := [cI x1]) (rest := [cI r4, .ref (ad o0)]) X K w (c_X4_get hg k16 h) (cwV 1 X.2.2.2.2 gX3_reasonToMiss_X4_get rfl rfl rfl (by decide +kernel) ⟨Nat.le_of_ble_eq_true rfl, Nat.le_of_ble_eq_true rfl⟩) k16 (by decide) rfl rfl hl rfl (Nat.le_of_ble_eq_true rfl) dX3_reasonToMiss_61 ⟨Nat.le_of_ble_eq_true rfl, Nat.le_of_ble_eq_true rfl⟩) w (fun r18 M17 H locs h w => ?_)
    refine q_i (x_V (As := [cI r4, cI r18]) (rest := []) X K w (c_X3_isLent hg k_o0 h) (cwV 2 X.2.2.2.2 gX3_reasonToMiss_X3_isLent rfl rfl rfl (by decide +kernel) ⟨Nat.le_of_ble_eq_true rfl, Nat.le_of_ble_eq_true rfl⟩) k_o0 (by decide) rfl rfl hl rfl (Nat.le_of_ble_eq_true rfl) dX3_reasonToMiss_64 ⟨Nat.le_of_ble_eq_true rfl, Nat.le_of_ble_eq_true rfl⟩) w (fun r20 M19 H locs h w => ?_)
    obtain ⟨i0, h1, h2⟩ := h
    refine r_if_eq (tgt := 77) X i0 dX3_reasonToMiss_67 (by decide) (fun cc => ?_) (fun cc => ?_)
    · have h := h1 cc
      refine r_iconst X dX3_reasonToMiss_77 ?_
      exact w_X3_reasonToMiss_J78 hg X K hr hlk x3 (r11 - r14) 0 M19 _ _ _ w (lv_sub hl [5, 0] rfl) h
    · have h := h2 cc
      refine lv_aload_n X.1 X.2.1 dX3_reasonToMiss_70 rfl (lv_at hl 4 rfl) ?_
      refine r_getiN (N := 11) (T := TX5) (kz := 6) X K w iX3_reasonToMiss_5 k_o2 rfl (by decide) 6 (by decide) rfl rfl rfl (List.mem_of_getElem? (i := 20) rfl) dX3_reasonToMiss_71 ?_
      refine lv_goto (tgt := 78) X.1 X.2.1 dX3_reasonToMiss_74 (by decide) ?_
      exact w_X3_reasonToMiss_J78 hg X K hr hlk x3 (r11 - r14) (M19 o2 6) M19 _ _ _ w (lv_sub hl [5, 0] rfl) h
  · have h := h2 cc
    refine r_iconst X dX3_reasonToMiss_25 ?_
    exact r_ireturn X hr hlk K w h dX3_reasonToMiss_26
theorem dX3_play_0 : decode cX3_play 0 = .ok (.aload_n 2, 1) := by decide +kernel
theorem dX3_play_1 : decode cX3_play 1 = .ok (.getfield 120, 3) := by decide +kernel
theorem dX3_play_4 : decode cX3_play 4 = .ok (.iload_n 1, 1) := by decide +kernel
theorem dX3_play_5 : decode cX3_play 5 = .ok (.invokevirtual 72, 3) := by decide +kernel
theorem dX3_play_8 : decode cX3_play 8 = .ok (.istore 5, 2) := by decide +kernel
theorem dX3_play_10 : decode cX3_play 10 = .ok (.aload_n 2, 1) := by decide +kernel
theorem dX3_play_11 : decode cX3_play 11 = .ok (.getfield 96, 3) := by decide +kernel
theorem dX3_play_14 : decode cX3_play 14 = .ok (.iload_n 1, 1) := by decide +kernel
theorem dX3_play_15 : decode cX3_play 15 = .ok (.invokevirtual 72, 3) := by decide +kernel
theorem dX3_play_18 : decode cX3_play 18 = .ok (.istore 6, 2) := by decide +kernel
theorem dX3_play_20 : decode cX3_play 20 = .ok (.aload_n 0, 1) := by decide +kernel
theorem dX3_play_21 : decode cX3_play 21 = .ok (.iload 4, 2) := by decide +kernel
theorem dX3_play_23 : decode cX3_play 23 = .ok (.iload_n 3, 1) := by decide +kernel
theorem dX3_play_24 : decode cX3_play 24 = .ok (.invokevirtual 130, 3) := by decide +kernel
theorem dX3_play_27 : decode cX3_play 27 = .ok (.istore 7, 2) := by decide +kernel
theorem dX3_play_29 : decode cX3_play 29 = .ok (.aload_n 0, 1) := by decide +kernel
theorem dX3_play_30 : decode cX3_play 30 = .ok (.iload 6, 2) := by decide +kernel
theorem dX3_play_32 : decode cX3_play 32 = .ok (.iload 5, 2) := by decide +kernel
theorem dX3_play_34 : decode cX3_play 34 = .ok (.invokevirtual 123, 3) := by decide +kernel
theorem dX3_play_37 : decode cX3_play 37 = .ok (.ifCond .eq 13, 3) := by decide +kernel
theorem dX3_play_40 : decode cX3_play 40 = .ok (.aload_n 0, 1) := by decide +kernel
theorem dX3_play_41 : decode cX3_play 41 = .ok (.getfield 50, 3) := by decide +kernel
theorem dX3_play_44 : decode cX3_play 44 = .ok (.iload 5, 2) := by decide +kernel
theorem dX3_play_46 : decode cX3_play 46 = .ok (.iconst 1, 1) := by decide +kernel
theorem dX3_play_47 : decode cX3_play 47 = .ok (.invokevirtual 138, 3) := by decide +kernel
theorem dX3_play_50 : decode cX3_play 50 = .ok (.aload_n 0, 1) := by decide +kernel
theorem dX3_play_51 : decode cX3_play 51 = .ok (.getfield 38, 3) := by decide +kernel
theorem dX3_play_54 : decode cX3_play 54 = .ok (.iload_n 1, 1) := by decide +kernel
theorem dX3_play_55 : decode cX3_play 55 = .ok (.iload_n 3, 1) := by decide +kernel
theorem dX3_play_56 : decode cX3_play 56 = .ok (.invokevirtual 76, 3) := by decide +kernel
theorem dX3_play_59 : decode cX3_play 59 = .ok (.aload_n 0, 1) := by decide +kernel
theorem dX3_play_60 : decode cX3_play 60 = .ok (.getfield 44, 3) := by decide +kernel
theorem dX3_play_63 : decode cX3_play 63 = .ok (.iload_n 1, 1) := by decide +kernel
theorem dX3_play_64 : decode cX3_play 64 = .ok (.iload 7, 2) := by decide +kernel
theorem dX3_play_66 : decode cX3_play 66 = .ok (.invokevirtual 76, 3) := by decide +kernel
theorem dX3_play_69 : decode cX3_play 69 = .ok (.aload_n 0, 1) := by decide +kernel
theorem dX3_play_70 : decode cX3_play 70 = .ok (.getfield 32, 3) := by decide +kernel
theorem dX3_play_73 : decode cX3_play 73 = .ok (.iload_n 3, 1) := by decide +kernel
theorem dX3_play_74 : decode cX3_play 74 = .ok (.iconst 1, 1) := by decide +kernel
theorem dX3_play_75 : decode cX3_play 75 = .ok (.invokevirtual 138, 3) := by decide +kernel
theorem dX3_play_78 : decode cX3_play 78 = .ok (.aload_n 0, 1) := by decide +kernel
theorem dX3_play_79 : decode cX3_play 79 = .ok (.getfield 35, 3) := by decide +kernel
theorem dX3_play_82 : decode cX3_play 82 = .ok (.iload_n 3, 1) := by decide +kernel
theorem dX3_play_83 : decode cX3_play 83 = .ok (.iload 7, 2) := by decide +kernel
theorem dX3_play_85 : decode cX3_play 85 = .ok (.invokevirtual 138, 3) := by decide +kernel
theorem dX3_play_88 : decode cX3_play 88 = .ok (.aload_n 0, 1) := by decide +kernel
theorem dX3_play_89 : decode cX3_play 89 = .ok (.getfield 26, 3) := by decide +kernel
theorem dX3_play_92 : decode cX3_play 92 = .ok (.iload_n 3, 1) := by decide +kernel
theorem dX3_play_93 : decode cX3_play 93 = .ok (.iload 4, 2) := by decide +kernel
theorem dX3_play_95 : decode cX3_play 95 = .ok (.invokevirtual 76, 3) := by decide +kernel
theorem dX3_play_98 : decode cX3_play 98 = .ok (.aload_n 0, 1) := by decide +kernel
theorem dX3_play_99 : decode cX3_play 99 = .ok (.getfield 29, 3) := by decide +kernel
theorem dX3_play_102 : decode cX3_play 102 = .ok (.iload_n 3, 1) := by decide +kernel
theorem dX3_play_103 : decode cX3_play 103 = .ok (.aload_n 2, 1) := by decide +kernel
theorem dX3_play_104 : decode cX3_play 104 = .ok (.iload_n 1, 1) := by decide +kernel
theorem dX3_play_105 : decode cX3_play 105 = .ok (.invokevirtual 141, 3) := by decide +kernel
theorem dX3_play_108 : decode cX3_play 108 = .ok (.invokevirtual 76, 3) := by decide +kernel
theorem dX3_play_111 : decode cX3_play 111 = .ok (.aload_n 0, 1) := by decide +kernel
theorem dX3_play_112 : decode cX3_play 112 = .ok (.getfield 14, 3) := by decide +kernel
theorem dX3_play_115 : decode cX3_play 115 = .ok (.iload 6, 2) := by decide +kernel
theorem dX3_play_117 : decode cX3_play 117 = .ok (.iconst (-1), 1) := by decide +kernel
theorem dX3_play_118 : decode cX3_play 118 = .ok (.invokevirtual 138, 3) := by decide +kernel
theorem dX3_play_121 : decode cX3_play 121 = .ok (.aload_n 0, 1) := by decide +kernel
theorem dX3_play_122 : decode cX3_play 122 = .ok (.getfield 20, 3) := by decide +kernel
theorem dX3_play_125 : decode cX3_play 125 = .ok (.iload 6, 2) := by decide +kernel
theorem dX3_play_127 : decode cX3_play 127 = .ok (.iload 5, 2) := by decide +kernel
theorem dX3_play_129 : decode cX3_play 129 = .ok (.invokevirtual 76, 3) := by decide +kernel
theorem dX3_play_132 : decode cX3_play 132 = .ok (.aload_n 0, 1) := by decide +kernel
theorem dX3_play_133 : decode cX3_play 133 = .ok (.getfield 23, 3) := by decide +kernel
theorem dX3_play_136 : decode cX3_play 136 = .ok (.iload 6, 2) := by decide +kernel
theorem dX3_play_138 : decode cX3_play 138 = .ok (.aload_n 2, 1) := by decide +kernel
theorem dX3_play_139 : decode cX3_play 139 = .ok (.iload_n 1, 1) := by decide +kernel
theorem dX3_play_140 : decode cX3_play 140 = .ok (.invokevirtual 141, 3) := by decide +kernel
theorem dX3_play_143 : decode cX3_play 143 = .ok (.invokevirtual 76, 3) := by decide +kernel
theorem dX3_play_146 : decode cX3_play 146 = .ok (.return_, 1) := by decide +kernel
set_option maxRecDepth 20000 in
theorem ggX3_play_X0_endOf : GoodIn wsX3_play wsX0_endOf := goodIn_r _ [44, 45, 46, 47, 12, 13, 14, 15, 16, 48, 49, 50, 51, 52, 53, 69] (by decide +kernel) (by decide +kernel)
set_option maxRecDepth 20000 in
theorem gX3_play_X0_endOf : GoodIn wsX3_play (wsV RX3 141 RX0 yX0_endOf wsX0_endOf) := goodIn_app (goodIn_of _ (by decide +kernel)) ggX3_play_X0_endOf
set_option maxRecDepth 20000 in
theorem ggX3_play_X3_isLent : GoodIn wsX3_play wsX3_isLent := goodIn_r _ [29, 9, 11, 12, 13, 14, 15, 16, 54, 55, 56, 57, 58, 59, 60, 61, 62, 63, 64, 65, 66, 67, 68, 69] (by decide +kernel) (by decide +kernel)
set_option maxRecDepth 20000 in
theorem gX3_play_X3_isLent : GoodIn wsX3_play (wsV RX3 123 RX3 yX3_isLent wsX3_isLent) := goodIn_app (goodIn_of _ (by decide +kernel)) ggX3_play_X3_isLent
set_option maxRecDepth 20000 in
theorem ggX3_play_X3_wayTo : GoodIn wsX3_play wsX3_wayTo := goodIn_r _ [21, 6, 22, 23, 24, 25, 11, 12, 13, 14, 15, 16, 54, 55, 56, 57, 58, 59, 60, 61, 62, 63, 64, 65, 66, 67, 68, 69] (by decide +kernel) (by decide +kernel)
set_option maxRecDepth 20000 in
theorem gX3_play_X3_wayTo : GoodIn wsX3_play (wsV RX3 130 RX3 yX3_wayTo wsX3_wayTo) := goodIn_app (goodIn_of _ (by decide +kernel)) ggX3_play_X3_wayTo
set_option maxRecDepth 20000 in
theorem ggX3_play_X4_get : GoodIn wsX3_play wsX4_get := goodIn_r _ [15, 16, 69] (by decide +kernel) (by decide +kernel)
set_option maxRecDepth 20000 in
theorem gX3_play_X4_get : GoodIn wsX3_play (wsV RX3 72 RX4 yX4_get wsX4_get) := goodIn_app (goodIn_of _ (by decide +kernel)) ggX3_play_X4_get
set_option maxRecDepth 20000 in
theorem ggX3_play_X4_increase : GoodIn wsX3_play wsX4_increase := goodIn_r _ [33, 34, 12, 13, 14, 15, 16, 35, 36, 37, 38, 69] (by decide +kernel) (by decide +kernel)
set_option maxRecDepth 20000 in
theorem gX3_play_X4_increase : GoodIn wsX3_play (wsV RX3 138 RX4 yX4_increase wsX4_increase) := goodIn_app (goodIn_of _ (by decide +kernel)) ggX3_play_X4_increase
set_option maxRecDepth 20000 in
theorem ggX3_play_X4_put : GoodIn wsX3_play wsX4_put := goodIn_r _ [38, 16, 69] (by decide +kernel) (by decide +kernel)
set_option maxRecDepth 20000 in
theorem gX3_play_X4_put : GoodIn wsX3_play (wsV RX3 76 RX4 yX4_put wsX4_put) := goodIn_app (goodIn_of _ (by decide +kernel)) ggX3_play_X4_put
theorem iX3_play_0 : ∀ w ∈ u_ws RX0 TX0 6, w ∈ wsX3_play := fun w h => List.mem_cons_of_mem _ (List.mem_append_left _ (List.mem_append_left _ (List.mem_append_right _ (h))))
theorem iX3_play_3 : ∀ w ∈ u_ws RX3 TX3 15, w ∈ wsX3_play := fun w h => List.mem_cons_of_mem _ (List.mem_append_left _ (List.mem_append_right _ (h)))
set_option maxHeartbeats 4000000 in
set_option maxRecDepth 100000 in
theorem w_X3_play_J50 {p : Program} {l : Launch} {e : Env} {s : State} {m : MethodId} {args : Array Value} {below : List Frame} {meth : Method} {c : Code} {E : EE} {g : GG} {ad : Nat → Nat} (hg : gwf g) (X : CallFix p m c cX3_play 8 s args wsX3_play RX3) (K : Kn E s) (hr : meth.sig.returnType = none) (hlk : meth.locks = false) {Q : Mm → Prop} : ∀ (o0 : Nat) (x1 : Int) (o2 : Nat) (x3 : Int) (x4 : Int) (x5 : Int) (x6 : Int) (x7 : Int) (M : Mm) (H : Heap) (locs : List Loc) (ls : Array Slot), gk g o0 = 3 → gk g o2 = 0 → Rw E g ad M s.heap H locs → lv_has ls 8 [(0, .ref (ad o0)), (1, cI x1), (2, .ref (ad o2)), (3, cI x3), (4, cI x4), (5, cI x5), (6, cI x6), (7, cI x7)] → p_X3_play_J50 g o0 x1 o2 x3 x4 x5 x6 x7 M Q → W p l e rmX3_play s m args below meth c H locs 0 0 (MQ below (QV E g ad Q) args s 0 0 (Rg g ad)) (F0 m 50 ls []) := by
  intro o0 x1 o2 x3 x4 x5 x6 x7 M H locs ls k_o0 k_o2 w hl h
  unfold p_X3_play_J50 at h
  refine lv_aload_n X.1 X.2.1 dX3_play_50 rfl (lv_at hl 0 rfl) ?_
  refine r_getr (N := 15) (T := TX3) X K w iX3_play_3 k_o0 rfl (by decide) 7 (by decide) rfl rfl (List.mem_of_getElem? (i := 2) rfl) dX3_play_51 ?_
  have k11 : gk g (o0 + 15) = 4 := gch hg k_o0 (by decide) 7 (by decide) rfl rfl
  refine lv_iload_n X.1 X.2.1 dX3_play_54 rfl (lv_at hl 1 rfl) ?_
  refine lv_iload_n X.1 X.2.1 dX3_play_55 rfl (lv_at hl 3 rfl) ?_
  refine q_v (x_V (As := [cI x1, cI x3]) (rest := []) X K w (c_X4_put hg k11 h) (cwV 2 X.2.2.2.2 gX3_play_X4_put rfl rfl rfl (by decide +kernel) ⟨Nat.le_of_ble_eq_true rfl, Nat.le_of_ble_eq_true rfl⟩) k11 (by decide) rfl rfl hl rfl (Nat.le_of_ble_eq_true rfl) dX3_play_56 ⟨Nat.le_of_ble_eq_true rfl, Nat.le_of_ble_eq_true rfl⟩) w (fun M12 H locs h w => ?_)
  refine lv_aload_n X.1 X.2.1 dX3_play_59 rfl (lv_at hl 0 rfl) ?_
  refine r_getr (N := 15) (T := TX3) X K w iX3_play_3 k_o0 rfl (by decide) 9 (by decide) rfl rfl (List.mem_of_getElem? (i := 3) rfl) dX3_play_60 ?_
  have k13 : gk g (o0 + 19) = 4 := gch hg k_o0 (by decide) 9 (by decide) rfl rfl
  refine lv_iload_n X.1 X.2.1 dX3_play_63 rfl (lv_at hl 1 rfl) ?_
  refine lv_iload X.1 X.2.1 dX3_play_64 (lv_at hl 7 rfl) ?_
  refine q_v (x_V (As := [cI x1, cI x7]) (rest := []) X K w (c_X4_put hg k13 h) (cwV 2 X.2.2.2.2 gX3_play_X4_put rfl rfl rfl (by decide +kernel) ⟨Nat.le_of_ble_eq_true rfl, Nat.le_of_ble_eq_true rfl⟩) k13 (by decide) rfl rfl hl rfl (Nat.le_of_ble_eq_true rfl) dX3_play_66 ⟨Nat.le_of_ble_eq_true rfl, Nat.le_of_ble_eq_true rfl⟩) w (fun M14 H locs h w => ?_)
  refine lv_aload_n X.1 X.2.1 dX3_play_69 rfl (lv_at hl 0 rfl) ?_
  refine r_getr (N := 15) (T := TX3) X K w iX3_play_3 k_o0 rfl (by decide) 5 (by decide) rfl rfl (List.mem_of_getElem? (i := 4) rfl) dX3_play_70 ?_
  have k15 : gk g (o0 + 11) = 4 := gch hg k_o0 (by decide) 5 (by decide) rfl rfl
  refine lv_iload_n X.1 X.2.1 dX3_play_73 rfl (lv_at hl 3 rfl) ?_
  refine r_iconst X dX3_play_74 ?_
  refine q_v (x_V (As := [cI x3, cI 1]) (rest := []) X K w (c_X4_increase hg k15 h) (cwV 2 X.2.2.2.2 gX3_play_X4_increase rfl rfl rfl (by decide +kernel) ⟨Nat.le_of_ble_eq_true rfl, Nat.le_of_ble_eq_true rfl⟩) k15 (by decide) rfl rfl hl rfl (Nat.le_of_ble_eq_true rfl) dX3_play_75 ⟨Nat.le_of_ble_eq_true rfl, Nat.le_of_ble_eq_true rfl⟩) w (fun M16 H locs h w => ?_)
  refine lv_aload_n X.1 X.2.1 dX3_play_78 rfl (lv_at hl 0 rfl) ?_
  refine r_getr (N := 15) (T := TX3) X K w iX3_play_3 k_o0 rfl (by decide) 6 (by decide) rfl rfl (List.mem_of_getElem? (i := 5) rfl) dX3_play_79 ?_
  have k17 : gk g (o0 + 13) = 4 := gch hg k_o0 (by decide) 6 (by decide) rfl rfl
  refine lv_iload_n X.1 X.2.1 dX3_play_82 rfl (lv_at hl 3 rfl) ?_
  refine lv_iload X.1 X.2.1 dX3_play_83 (lv_at hl 7 rfl) ?_
  refine q_v (x_V (As := [cI x3, cI x7]) (rest := []) X K w (c_X4_increase hg k17 h) (cwV 2 X.2.2.2.2 gX3_play_X4_increase rfl rfl rfl (by decide +kernel) ⟨Nat.le_of_ble_eq_true rfl, Nat.le_of_ble_eq_true rfl⟩) k17 (by decide) rfl rfl hl rfl (Nat.le_of_ble_eq_true rfl) dX3_play_85 ⟨Nat.le_of_ble_eq_true rfl, Nat.le_of_ble_eq_true rfl⟩) w (fun M18 H locs h w => ?_)
  refine lv_aload_n X.1 X.2.1 dX3_play_88 rfl (lv_at hl 0 rfl) ?_
  refine r_getr (N := 15) (T := TX3) X K w iX3_play_3 k_o0 rfl (by decide) 3 (by decide) rfl rfl (List.mem_of_getElem? (i := 6) rfl) dX3_play_89 ?_
  have k19 : gk g (o0 + 7) = 4 := gch hg k_o0 (by decide) 3 (by decide) rfl rfl
  refine lv_iload_n X.1 X.2.1 dX3_play_92 rfl (lv_at hl 3 rfl) ?_
  refine lv_iload X.1 X.2.1 dX3_play_93 (lv_at hl 4 rfl) ?_
  refine q_v (x_V (As := [cI x3, cI x4]) (rest := []) X K w (c_X4_put hg k19 h) (cwV 2 X.2.2.2.2 gX3_play_X4_put rfl rfl rfl (by decide +kernel) ⟨Nat.le_of_ble_eq_true rfl, Nat.le_of_ble_eq_true rfl⟩) k19 (by decide) rfl rfl hl rfl (Nat.le_of_ble_eq_true rfl) dX3_play_95 ⟨Nat.le_of_ble_eq_true rfl, Nat.le_of_ble_eq_true rfl⟩) w (fun M20 H locs h w => ?_)
  refine lv_aload_n X.1 X.2.1 dX3_play_98 rfl (lv_at hl 0 rfl) ?_
  refine r_getr (N := 15) (T := TX3) X K w iX3_play_3 k_o0 rfl (by decide) 4 (by decide) rfl rfl (List.mem_of_getElem? (i := 7) rfl) dX3_play_99 ?_
  have k21 : gk g (o0 + 9) = 4 := gch hg k_o0 (by decide) 4 (by decide) rfl rfl
  refine lv_iload_n X.1 X.2.1 dX3_play_102 rfl (lv_at hl 3 rfl) ?_
  refine lv_aload_n X.1 X.2.1 dX3_play_103 rfl (lv_at hl 2 rfl) ?_
  refine lv_iload_n X.1 X.2.1 dX3_play_104 rfl (lv_at hl 1 rfl) ?_
  refine q_i (x_V (As := [cI x1]) (rest := [cI x3, .ref (ad (o0 + 9))]) X K w (c_X0_endOf hg k_o2 h) (cwV 1 X.2.2.2.2 gX3_play_X0_endOf rfl rfl rfl (by decide +kernel) ⟨Nat.le_of_ble_eq_true rfl, Nat.le_of_ble_eq_true rfl⟩) k_o2 (by decide) rfl rfl hl rfl (Nat.le_of_ble_eq_true rfl) dX3_play_105 ⟨Nat.le_of_ble_eq_true rfl, Nat.le_of_ble_eq_true rfl⟩) w (fun r23 M22 H locs h w => ?_)
  refine q_v (x_V (As := [cI x3, cI r23]) (rest := []) X K w (c_X4_put hg k21 h) (cwV 2 X.2.2.2.2 gX3_play_X4_put rfl rfl rfl (by decide +kernel) ⟨Nat.le_of_ble_eq_true rfl, Nat.le_of_ble_eq_true rfl⟩) k21 (by decide) rfl rfl hl rfl (Nat.le_of_ble_eq_true rfl) dX3_play_108 ⟨Nat.le_of_ble_eq_true rfl, Nat.le_of_ble_eq_true rfl⟩) w (fun M24 H locs h w => ?_)
  refine lv_aload_n X.1 X.2.1 dX3_play_111 rfl (lv_at hl 0 rfl) ?_
  refine r_getr (N := 15) (T := TX3) X K w iX3_play_3 k_o0 rfl (by decide) 0 (by decide) rfl rfl (List.mem_of_getElem? (i := 8) rfl) dX3_play_112 ?_
  have k25 : gk g (o0 + 1) = 4 := gch hg k_o0 (by decide) 0 (by decide) rfl rfl
  refine lv_iload X.1 X.2.1 dX3_play_115 (lv_at hl 6 rfl) ?_
  refine r_iconst X dX3_play_117 ?_
  refine q_v (x_V (As := [cI x6, cI (-1)]) (rest := []) X K w (c_X4_increase hg k25 h) (cwV 2 X.2.2.2.2 gX3_play_X4_increase rfl rfl rfl (by decide +kernel) ⟨Nat.le_of_ble_eq_true rfl, Nat.le_of_ble_eq_true rfl⟩) k25 (by decide) rfl rfl hl rfl (Nat.le_of_ble_eq_true rfl) dX3_play_118 ⟨Nat.le_of_ble_eq_true rfl, Nat.le_of_ble_eq_true rfl⟩) w (fun M26 H locs h w => ?_)
  refine lv_aload_n X.1 X.2.1 dX3_play_121 rfl (lv_at hl 0 rfl) ?_
  refine r_getr (N := 15) (T := TX3) X K w iX3_play_3 k_o0 rfl (by decide) 1 (by decide) rfl rfl (List.mem_of_getElem? (i := 9) rfl) dX3_play_122 ?_
  have k27 : gk g (o0 + 3) = 4 := gch hg k_o0 (by decide) 1 (by decide) rfl rfl
  refine lv_iload X.1 X.2.1 dX3_play_125 (lv_at hl 6 rfl) ?_
  refine lv_iload X.1 X.2.1 dX3_play_127 (lv_at hl 5 rfl) ?_
  refine q_v (x_V (As := [cI x6, cI x5]) (rest := []) X K w (c_X4_put hg k27 h) (cwV 2 X.2.2.2.2 gX3_play_X4_put rfl rfl rfl (by decide +kernel) ⟨Nat.le_of_ble_eq_true rfl, Nat.le_of_ble_eq_true rfl⟩) k27 (by decide) rfl rfl hl rfl (Nat.le_of_ble_eq_true rfl) dX3_play_129 ⟨Nat.le_of_ble_eq_true rfl, Nat.le_of_ble_eq_true rfl⟩) w (fun M28 H locs h w => ?_)
  refine lv_aload_n X.1 X.2.1 dX3_play_132 rfl (lv_at hl 0 rfl) ?_
  refine r_getr (N := 15) (T := TX3) X K w iX3_play_3 k_o0 rfl (by decide) 2 (by decide) rfl rfl (List.mem_of_getElem? (i := 10) rfl) dX3_play_133 ?_
  have k29 : gk g (o0 + 5) = 4 := gch hg k_o0 (by decide) 2 (by decide) rfl rfl
  refine lv_iload X.1 X.2.1 dX3_play_136 (lv_at hl 6 rfl) ?_
  refine lv_aload_n X.1 X.2.1 dX3_play_138 rfl (lv_at hl 2 rfl) ?_
  refine lv_iload_n X.1 X.2.1 dX3_play_139 rfl (lv_at hl 1 rfl) ?_
  refine q_i (x_V (As := [cI x1]) (rest := [cI x6, .ref (ad (o0 + 5))]) X K w (c_X0_endOf hg k_o2 h) (cwV 1 X.2.2.2.2 gX3_play_X0_endOf rfl rfl rfl (by decide +kernel) ⟨Nat.le_of_ble_eq_true rfl, Nat.le_of_ble_eq_true rfl⟩) k_o2 (by decide) rfl rfl hl rfl (Nat.le_of_ble_eq_true rfl) dX3_play_140 ⟨Nat.le_of_ble_eq_true rfl, Nat.le_of_ble_eq_true rfl⟩) w (fun r31 M30 H locs h w => ?_)
  refine q_v (x_V (As := [cI x6, cI r31]) (rest := []) X K w (c_X4_put hg k29 h) (cwV 2 X.2.2.2.2 gX3_play_X4_put rfl rfl rfl (by decide +kernel) ⟨Nat.le_of_ble_eq_true rfl, Nat.le_of_ble_eq_true rfl⟩) k29 (by decide) rfl rfl hl rfl (Nat.le_of_ble_eq_true rfl) dX3_play_143 ⟨Nat.le_of_ble_eq_true rfl, Nat.le_of_ble_eq_true rfl⟩) w (fun M32 H locs h w => ?_)
  exact r_return X hr hlk K w h dX3_play_146
set_option maxHeartbeats 4000000 in
set_option maxRecDepth 100000 in
theorem c_X3_play {E : EE} {l : Launch} {g : GG} {ad : Nat → Nat} (hg : gwf g) {o0 : Nat} {x1 : Int} {o2 : Nat} {x3 : Int} {x4 : Int} {M : Mm} {Q : Mm → Prop} (k_o0 : gk g o0 = 3) (k_o2 : gk g o2 = 0) (h : p_X3_play g o0 x1 o2 x3 x4 M Q) : Ct E l yX3_play wsX3_play rmX3_play g ad [.ref (ad o0), cI x1, .ref (ad o2), cI x3, cI x4] M (QV E g ad Q) := by
  refine ent (cc := cX3_play) (maxL := 8) (ret := none) (own := RX3) (by decide +kernel) rfl rfl (Nat.le_of_ble_eq_true rfl) ?_
  intro p e s m below meth c ls X hr hlk K w hl
  have hl : lv_has ls 8 [(0, .ref (ad o0)), (1, cI x1), (2, .ref (ad o2)), (3, cI x3), (4, cI x4)] := hl
  unfold p_X3_play at h
  refine lv_aload_n X.1 X.2.1 dX3_play_0 rfl (lv_at hl 2 rfl) ?_
  refine r_getrN (N := 6) (T := TX0) X K w iX3_play_0 k_o2 rfl (by decide) 2 (by decide) rfl rfl (List.mem_of_getElem? (i := 2) rfl) dX3_play_1 ?_
  have k1 : gk g (o2 + 3) = 4 := gch hg k_o2 (by decide) 2 (by decide) rfl rfl
  refine lv_iload_n X.1 X.2.1 dX3_play_4 rfl (lv_at hl 1 rfl) ?_
  refine q_i (x_V (As := [cI x1]) (rest := []) X K w (c_X4_get hg k1 h) (cwV 1 X.2.2.2.2 gX3_play_X4_get rfl rfl rfl (by decide +kernel) ⟨Nat.le_of_ble_eq_true rfl, Nat.le_of_ble_eq_true rfl⟩) k1 (by decide) rfl rfl hl rfl (Nat.le_of_ble_eq_true rfl) dX3_play_5 ⟨Nat.le_of_ble_eq_true rfl, Nat.le_of_ble_eq_true rfl⟩) w (fun r3 M2 H locs h w => ?_)
  refine lv_istore (lv' := [(5, cI r3), (0, .ref (ad o0)), (1, cI x1), (2, .ref (ad o2)), (3, cI x3), (4, cI x4)]) X.1 X.2.1 dX3_play_8 hl (by decide) rfl (fun ls hl => ?_)
  refine lv_aload_n X.1 X.2.1 dX3_play_10 rfl (lv_at hl 3 rfl) ?_
  refine r_getrN (N := 6) (T := TX0) X K w iX3_play_0 k_o2 rfl (by decide) 3 (by decide) rfl rfl (List.mem_of_getElem? (i := 4) rfl) dX3_play_11 ?_
  have k4 : gk g (o2 + 5) = 4 := gch hg k_o2 (by decide) 3 (by decide) rfl rfl
  refine lv_iload_n X.1 X.2.1 dX3_play_14 rfl (lv_at hl 2 rfl) ?_
  refine q_i (x_V (As := [cI x1]) (rest := []) X K w (c_X4_get hg k4 h) (cwV 1 X.2.2.2.2 gX3_play_X4_get rfl rfl rfl (by decide +kernel) ⟨Nat.le_of_ble_eq_true rfl, Nat.le_of_ble_eq_true rfl⟩) k4 (by decide) rfl rfl hl rfl (Nat.le_of_ble_eq_true rfl) dX3_play_15 ⟨Nat.le_of_ble_eq_true rfl, Nat.le_of_ble_eq_true rfl⟩) w (fun r6 M5 H locs h w => ?_)
  refine lv_istore (lv' := [(6, cI r6), (5, cI r3), (0, .ref (ad o0)), (1, cI x1), (2, .ref (ad o2)), (3, cI x3), (4, cI x4)]) X.1 X.2.1 dX3_play_18 hl (by decide) rfl (fun ls hl => ?_)
  refine lv_aload_n X.1 X.2.1 dX3_play_20 rfl (lv_at hl 2 rfl) ?_
  refine lv_iload X.1 X.2.1 dX3_play_21 (lv_at hl 6 rfl) ?_
  refine lv_iload_n X.1 X.2.1 dX3_play_23 rfl (lv_at hl 5 rfl) ?_
  refine q_i (x_V (As := [cI x4, cI x3]) (rest := []) X K w (c_X3_wayTo hg k_o0 h) (cwV 2 X.2.2.2.2 gX3_play_X3_wayTo rfl rfl rfl (by decide +kernel) ⟨Nat.le_of_ble_eq_true rfl, Nat.le_of_ble_eq_true rfl⟩) k_o0 (by decide) rfl rfl hl rfl (Nat.le_of_ble_eq_true rfl) dX3_play_24 ⟨Nat.le_of_ble_eq_true rfl, Nat.le_of_ble_eq_true rfl⟩) w (fun r8 M7 H locs h w => ?_)
  refine lv_istore (lv' := [(7, cI r8), (6, cI r6), (5, cI r3), (0, .ref (ad o0)), (1, cI x1), (2, .ref (ad o2)), (3, cI x3), (4, cI x4)]) X.1 X.2.1 dX3_play_27 hl (by decide) rfl (fun ls hl => ?_)
  refine lv_aload_n X.1 X.2.1 dX3_play_29 rfl (lv_at hl 3 rfl) ?_
  refine lv_iload X.1 X.2.1 dX3_play_30 (lv_at hl 1 rfl) ?_
  refine lv_iload X.1 X.2.1 dX3_play_32 (lv_at hl 2 rfl) ?_
  refine q_i (x_V (As := [cI r6, cI r3]) (rest := []) X K w (c_X3_isLent hg k_o0 h) (cwV 2 X.2.2.2.2 gX3_play_X3_isLent rfl rfl rfl (by decide +kernel) ⟨Nat.le_of_ble_eq_true rfl, Nat.le_of_ble_eq_true rfl⟩) k_o0 (by decide) rfl rfl hl rfl (Nat.le_of_ble_eq_true rfl) dX3_play_34 ⟨Nat.le_of_ble_eq_true rfl, Nat.le_of_ble_eq_true rfl⟩) w (fun r10 M9 H locs h w => ?_)
  obtain ⟨i0, h1, h2⟩ := h
  refine r_if_eq (tgt := 50) X i0 dX3_play_37 (by decide) (fun cc => ?_) (fun cc => ?_)
  · have h := h1 cc
    exact w_X3_play_J50 hg X K hr hlk o0 x1 o2 x3 x4 r3 r6 r8 M9 _ _ _ k_o0 k_o2 w (lv_sub hl [3, 4, 5, 6, 7, 2, 1, 0] rfl) h
  · have h := h2 cc
    refine lv_aload_n X.1 X.2.1 dX3_play_40 rfl (lv_at hl 3 rfl) ?_
    refine r_getr (N := 15) (T := TX3) X K w iX3_play_3 k_o0 rfl (by decide) 11 (by decide) rfl rfl (List.mem_of_getElem? (i := 1) rfl) dX3_play_41 ?_
    have k33 : gk g (o0 + 23) = 4 := gch hg k_o0 (by decide) 11 (by decide) rfl rfl
    refine lv_iload X.1 X.2.1 dX3_play_44 (lv_at hl 2 rfl) ?_
    refine r_iconst X dX3_play_46 ?_
    refine q_v (x_V (As := [cI r3, cI 1]) (rest := []) X K w (c_X4_increase hg k33 h) (cwV 2 X.2.2.2.2 gX3_play_X4_increase rfl rfl rfl (by decide +kernel) ⟨Nat.le_of_ble_eq_true rfl, Nat.le_of_ble_eq_true rfl⟩) k33 (by decide) rfl rfl hl rfl (Nat.le_of_ble_eq_true rfl) dX3_play_47 ⟨Nat.le_of_ble_eq_true rfl, Nat.le_of_ble_eq_true rfl⟩) w (fun M34 H locs h w => ?_)
    exact w_X3_play_J50 hg X K hr hlk o0 x1 o2 x3 x4 r3 r6 r8 M34 _ _ _ k_o0 k_o2 w (lv_sub hl [3, 4, 5, 6, 7, 2, 1, 0] rfl) h
theorem dX3_miss_0 : decode cX3_miss 0 = .ok (.aload_n 0, 1) := by decide +kernel
theorem dX3_miss_1 : decode cX3_miss 1 = .ok (.getfield 38, 3) := by decide +kernel
theorem dX3_miss_4 : decode cX3_miss 4 = .ok (.iload_n 1, 1) := by decide +kernel
theorem dX3_miss_5 : decode cX3_miss 5 = .ok (.bipush (-5), 2) := by decide +kernel
theorem dX3_miss_7 : decode cX3_miss 7 = .ok (.invokevirtual 76, 3) := by decide +kernel
theorem dX3_miss_10 : decode cX3_miss 10 = .ok (.aload_n 0, 1) := by decide +kernel
theorem dX3_miss_11 : decode cX3_miss 11 = .ok (.getfield 44, 3) := by decide +kernel
theorem dX3_miss_14 : decode cX3_miss 14 = .ok (.iload_n 1, 1) := by decide +kernel
theorem dX3_miss_15 : decode cX3_miss 15 = .ok (.bipush (-5), 2) := by decide +kernel
theorem dX3_miss_17 : decode cX3_miss 17 = .ok (.invokevirtual 76, 3) := by decide +kernel
theorem dX3_miss_20 : decode cX3_miss 20 = .ok (.aload_n 0, 1) := by decide +kernel
theorem dX3_miss_21 : decode cX3_miss 21 = .ok (.getfield 47, 3) := by decide +kernel
theorem dX3_miss_24 : decode cX3_miss 24 = .ok (.aload_n 2, 1) := by decide +kernel
theorem dX3_miss_25 : decode cX3_miss 25 = .ok (.getfield 83, 3) := by decide +kernel
theorem dX3_miss_28 : decode cX3_miss 28 = .ok (.getfield 120, 3) := by decide +kernel
theorem dX3_miss_31 : decode cX3_miss 31 = .ok (.iload_n 1, 1) := by decide +kernel
theorem dX3_miss_32 : decode cX3_miss 32 = .ok (.invokevirtual 72, 3) := by decide +kernel
theorem dX3_miss_35 : decode cX3_miss 35 = .ok (.iconst 1, 1) := by decide +kernel
theorem dX3_miss_36 : decode cX3_miss 36 = .ok (.invokevirtual 138, 3) := by decide +kernel
theorem dX3_miss_39 : decode cX3_miss 39 = .ok (.aload_n 0, 1) := by decide +kernel
theorem dX3_miss_40 : decode cX3_miss 40 = .ok (.dup, 1) := by decide +kernel
theorem dX3_miss_41 : decode cX3_miss 41 = .ok (.getfield 57, 3) := by decide +kernel
theorem dX3_miss_44 : decode cX3_miss 44 = .ok (.iconst 1, 1) := by decide +kernel
theorem dX3_miss_45 : decode cX3_miss 45 = .ok (.iadd, 1) := by decide +kernel
theorem dX3_miss_46 : decode cX3_miss 46 = .ok (.putfield 57, 3) := by decide +kernel
theorem dX3_miss_49 : decode cX3_miss 49 = .ok (.aload_n 0, 1) := by decide +kernel
theorem dX3_miss_50 : decode cX3_miss 50 = .ok (.dup, 1) := by decide +kernel
theorem dX3_miss_51 : decode cX3_miss 51 = .ok (.getfield 60, 3) := by decide +kernel
theorem dX3_miss_54 : decode cX3_miss 54 = .ok (.aload_n 2, 1) := by decide +kernel
theorem dX3_miss_55 : decode cX3_miss 55 = .ok (.getfield 144, 3) := by decide +kernel
theorem dX3_miss_58 : decode cX3_miss 58 = .ok (.aload_n 2, 1) := by decide +kernel
theorem dX3_miss_59 : decode cX3_miss 59 = .ok (.getfield 83, 3) := by decide +kernel
theorem dX3_miss_62 : decode cX3_miss 62 = .ok (.getfield 96, 3) := by decide +kernel
theorem dX3_miss_65 : decode cX3_miss 65 = .ok (.iload_n 1, 1) := by decide +kernel
theorem dX3_miss_66 : decode cX3_miss 66 = .ok (.invokevirtual 72, 3) := by decide +kernel
theorem dX3_miss_69 : decode cX3_miss 69 = .ok (.invokevirtual 72, 3) := by decide +kernel
theorem dX3_miss_72 : decode cX3_miss 72 = .ok (.iadd, 1) := by decide +kernel
theorem dX3_miss_73 : decode cX3_miss 73 = .ok (.putfield 60, 3) := by decide +kernel
theorem dX3_miss_76 : decode cX3_miss 76 = .ok (.return_, 1) := by decide +kernel
set_option maxRecDepth 20000 in
theorem ggX3_miss_X4_get : GoodIn wsX3_miss wsX4_get := goodIn_r _ [15, 11, 54] (by decide +kernel) (by decide +kernel)
set_option maxRecDepth 20000 in
theorem gX3_miss_X4_get : GoodIn wsX3_miss (wsV RX3 72 RX4 yX4_get wsX4_get) := goodIn_app (goodIn_of _ (by decide +kernel)) ggX3_miss_X4_get
set_option maxRecDepth 20000 in
theorem ggX3_miss_X4_increase : GoodIn wsX3_miss wsX4_increase := goodIn_r _ [19, 20, 13, 14, 9, 15, 11, 21, 7, 8, 10, 54] (by decide +kernel) (by decide +kernel)
set_option maxRecDepth 20000 in
theorem gX3_miss_X4_increase : GoodIn wsX3_miss (wsV RX3 138 RX4 yX4_increase wsX4_increase) := goodIn_app (goodIn_of _ (by decide +kernel)) ggX3_miss_X4_increase
set_option maxRecDepth 20000 in
theorem ggX3_miss_X4_put : GoodIn wsX3_miss wsX4_put := goodIn_r _ [10, 11, 54] (by decide +kernel) (by decide +kernel)
set_option maxRecDepth 20000 in
theorem gX3_miss_X4_put : GoodIn wsX3_miss (wsV RX3 76 RX4 yX4_put wsX4_put) := goodIn_app (goodIn_of _ (by decide +kernel)) ggX3_miss_X4_put
theorem iX3_miss_0 : ∀ w ∈ u_ws RX0 TX0 6, w ∈ wsX3_miss := fun w h => List.mem_cons_of_mem _ (List.mem_append_left _ (List.mem_append_right _ (h)))
theorem iX3_miss_3 : ∀ w ∈ u_ws RX3 TX3 15, w ∈ wsX3_miss := fun w h => List.mem_cons_of_mem _ (List.mem_append_left _ (List.mem_append_left _ (List.mem_append_left _ (List.mem_append_right _ (h)))))
theorem iX3_miss_5 : ∀ w ∈ u_ws RX5 TX5 11, w ∈ wsX3_miss := fun w h => List.mem_cons_of_mem _ (List.mem_append_left _ (List.mem_append_left _ (List.mem_append_right _ (h))))
set_option maxHeartbeats 4000000 in
set_option maxRecDepth 100000 in
theorem c_X3_miss {E : EE} {l : Launch} {g : GG} {ad : Nat → Nat} (hg : gwf g) {o0 : Nat} {x1 : Int} {o2 : Nat} {M : Mm} {Q : Mm → Prop} (k_o0 : gk g o0 = 3) (k_o2 : gk g o2 = 5) (h : p_X3_miss g o0 x1 o2 M Q) : Ct E l yX3_miss wsX3_miss rmX3_miss g ad [.ref (ad o0), cI x1, .ref (ad o2)] M (QV E g ad Q) := by
  refine ent (cc := cX3_miss) (maxL := 3) (ret := none) (own := RX3) (by decide +kernel) rfl rfl (Nat.le_of_ble_eq_true rfl) ?_
  intro p e s m below meth c ls X hr hlk K w hl
  have hl : lv_has ls 3 [(0, .ref (ad o0)), (1, cI x1), (2, .ref (ad o2))] := hl
  unfold p_X3_miss at h
  refine lv_aload_n X.1 X.2.1 dX3_miss_0 rfl (lv_at hl 0 rfl) ?_
  refine r_getr (N := 15) (T := TX3) X K w iX3_miss_3 k_o0 rfl (by decide) 7 (by decide) rfl rfl (List.mem_of_getElem? (i := 1) rfl) dX3_miss_1 ?_
  have k1 : gk g (o0 + 15) = 4 := gch hg k_o0 (by decide) 7 (by decide) rfl rfl
  refine lv_iload_n X.1 X.2.1 dX3_miss_4 rfl (lv_at hl 1 rfl) ?_
  refine r_bipush X dX3_miss_5 (by decide +kernel) ?_
  refine q_v (x_V (As := [cI x1, cI (-5)]) (rest := []) X K w (c_X4_put hg k1 h) (cwV 2 X.2.2.2.2 gX3_miss_X4_put rfl rfl rfl (by decide +kernel) ⟨Nat.le_of_ble_eq_true rfl, Nat.le_of_ble_eq_true rfl⟩) k1 (by decide) rfl rfl hl rfl (Nat.le_of_ble_eq_true rfl) dX3_miss_7 ⟨Nat.le_of_ble_eq_true rfl, Nat.le_of_ble_eq_true rfl⟩) w (fun M2 H locs h w => ?_)
  refine lv_aload_n X.1 X.2.1 dX3_miss_10 rfl (lv_at hl 0 rfl) ?_
  refine r_getr (N := 15) (T := TX3) X K w iX3_miss_3 k_o0 rfl (by decide) 9 (by decide) rfl rfl (List.mem_of_getElem? (i := 2) rfl) dX3_miss_11 ?_
  have k3 : gk g (o0 + 19) = 4 := gch hg k_o0 (by decide) 9 (by decide) rfl rfl
  refine lv_iload_n X.1 X.2.1 dX3_miss_14 rfl (lv_at hl 1 rfl) ?_
  refine r_bipush X dX3_miss_15 (by decide +kernel) ?_
  refine q_v (x_V (As := [cI x1, cI (-5)]) (rest := []) X K w (c_X4_put hg k3 h) (cwV 2 X.2.2.2.2 gX3_miss_X4_put rfl rfl rfl (by decide +kernel) ⟨Nat.le_of_ble_eq_true rfl, Nat.le_of_ble_eq_true rfl⟩) k3 (by decide) rfl rfl hl rfl (Nat.le_of_ble_eq_true rfl) dX3_miss_17 ⟨Nat.le_of_ble_eq_true rfl, Nat.le_of_ble_eq_true rfl⟩) w (fun M4 H locs h w => ?_)
  refine lv_aload_n X.1 X.2.1 dX3_miss_20 rfl (lv_at hl 0 rfl) ?_
  refine r_getr (N := 15) (T := TX3) X K w iX3_miss_3 k_o0 rfl (by decide) 10 (by decide) rfl rfl (List.mem_of_getElem? (i := 3) rfl) dX3_miss_21 ?_
  have k5 : gk g (o0 + 21) = 4 := gch hg k_o0 (by decide) 10 (by decide) rfl rfl
  refine lv_aload_n X.1 X.2.1 dX3_miss_24 rfl (lv_at hl 2 rfl) ?_
  refine r_getrN (N := 11) (T := TX5) X K w iX3_miss_5 k_o2 rfl (by decide) 4 (by decide) rfl rfl (List.mem_of_getElem? (i := 15) rfl) dX3_miss_25 ?_
  have k6 : gk g (o2 + 9) = 0 := gch hg k_o2 (by decide) 4 (by decide) rfl rfl
  refine r_getrN (N := 6) (T := TX0) X K w iX3_miss_0 k6 rfl (by decide) 2 (by decide) rfl rfl (List.mem_of_getElem? (i := 2) rfl) dX3_miss_28 ?_
  have k7 : gk g ((o2 + 9) + 3) = 4 := gch hg k6 (by decide) 2 (by decide) rfl rfl
  refine lv_iload_n X.1 X.2.1 dX3_miss_31 rfl (lv_at hl 1 rfl) ?_
  refine q_i (x_V (As := [cI x1]) (rest := [.ref (ad (o0 + 21))]) X K w (c_X4_get hg k7 h) (cwV 1 X.2.2.2.2 gX3_miss_X4_get rfl rfl rfl (by decide +kernel) ⟨Nat.le_of_ble_eq_true rfl, Nat.le_of_ble_eq_true rfl⟩) k7 (by decide) rfl rfl hl rfl (Nat.le_of_ble_eq_true rfl) dX3_miss_32 ⟨Nat.le_of_ble_eq_true rfl, Nat.le_of_ble_eq_true rfl⟩) w (fun r9 M8 H locs h w => ?_)
  refine r_iconst X dX3_miss_35 ?_
  refine q_v (x_V (As := [cI r9, cI 1]) (rest := []) X K w (c_X4_increase hg k5 h) (cwV 2 X.2.2.2.2 gX3_miss_X4_increase rfl rfl rfl (by decide +kernel) ⟨Nat.le_of_ble_eq_true rfl, Nat.le_of_ble_eq_true rfl⟩) k5 (by decide) rfl rfl hl rfl (Nat.le_of_ble_eq_true rfl) dX3_miss_36 ⟨Nat.le_of_ble_eq_true rfl, Nat.le_of_ble_eq_true rfl⟩) w (fun M10 H locs h w => ?_)
  refine lv_aload_n X.1 X.2.1 dX3_miss_39 rfl (lv_at hl 0 rfl) ?_
  refine lv_dup X.1 X.2.1 dX3_miss_40 rfl ?_
  refine r_geti (N := 15) (T := TX3) (kz := 13) X K w iX3_miss_3 k_o0 rfl (by decide) 13 (by decide) rfl rfl rfl (List.mem_of_getElem? (i := 4) rfl) dX3_miss_41 ?_
  refine r_iconst X dX3_miss_44 ?_
  refine r_iadd X dX3_miss_45 ?_
  refine r_puti (N := 15) (T := TX3) (kz := 13) (ty := .int) X K w iX3_miss_3 tyX3 tyX3_ok nmX3 k_o0 rfl (by decide) 13 (by decide) rfl rfl rfl rfl (by decide +kernel) rfl rfl (List.mem_of_getElem? (i := 4) rfl) dX3_miss_46 (fun M11 H locs e w => ?_)
  replace h := h M11 e
  refine lv_aload_n X.1 X.2.1 dX3_miss_49 rfl (lv_at hl 0 rfl) ?_
  refine lv_dup X.1 X.2.1 dX3_miss_50 rfl ?_
  refine r_geti (N := 15) (T := TX3) (kz := 14) X K w iX3_miss_3 k_o0 rfl (by decide) 14 (by decide) rfl rfl rfl (List.mem_of_getElem? (i := 5) rfl) dX3_miss_51 ?_
  refine lv_aload_n X.1 X.2.1 dX3_miss_54 rfl (lv_at hl 2 rfl) ?_
  refine r_getrN (N := 11) (T := TX5) X K w iX3_miss_5 k_o2 rfl (by decide) 2 (by decide) rfl rfl (List.mem_of_getElem? (i := 12) rfl) dX3_miss_55 ?_
  have k12 : gk g (o2 + 5) = 4 := gch hg k_o2 (by decide) 2 (by decide) rfl rfl
  refine lv_aload_n X.1 X.2.1 dX3_miss_58 rfl (lv_at hl 2 rfl) ?_
  refine r_getrN (N := 11) (T := TX5) X K w iX3_miss_5 k_o2 rfl (by decide) 4 (by decide) rfl rfl (List.mem_of_getElem? (i := 15) rfl) dX3_miss_59 ?_
  have k13 : gk g (o2 + 9) = 0 := gch hg k_o2 (by decide) 4 (by decide) rfl rfl
  refine r_getrN (N := 6) (T := TX0) X K w iX3_miss_0 k13 rfl (by decide) 3 (by decide) rfl rfl (List.mem_of_getElem? (i := 4) rfl) dX3_miss_62 ?_
  have k14 : gk g ((o2 + 9) + 5) = 4 := gch hg k13 (by decide) 3 (by decide) rfl rfl
  refine lv_iload_n X.1 X.2.1 dX3_miss_65 rfl (lv_at hl 1 rfl) ?_
  refine q_i (x_V (As := [cI x1]) (rest := [.ref (ad (o2 + 5)), cI (M11 o0 14), .ref (ad o0)]) X K w (c_X4_get hg k14 h) (cwV 1 X.2.2.2.2 gX3_miss_X4_get rfl rfl rfl (by decide +kernel) ⟨Nat.le_of_ble_eq_true rfl, Nat.le_of_ble_eq_true rfl⟩) k14 (by decide) rfl rfl hl rfl (Nat.le_of_ble_eq_true rfl) dX3_miss_66 ⟨Nat.le_of_ble_eq_true rfl, Nat.le_of_ble_eq_true rfl⟩) w (fun r16 M15 H locs h w => ?_)
  refine q_i (x_V (As := [cI r16]) (rest := [cI (M11 o0 14), .ref (ad o0)]) X K w (c_X4_get hg k12 h) (cwV 1 X.2.2.2.2 gX3_miss_X4_get rfl rfl rfl (by decide +kernel) ⟨Nat.le_of_ble_eq_true rfl, Nat.le_of_ble_eq_true rfl⟩) k12 (by decide) rfl rfl hl rfl (Nat.le_of_ble_eq_true rfl) dX3_miss_69 ⟨Nat.le_of_ble_eq_true rfl, Nat.le_of_ble_eq_true rfl⟩) w (fun r18 M17 H locs h w => ?_)
  refine r_iadd X dX3_miss_72 ?_
  refine r_puti (N := 15) (T := TX3) (kz := 14) (ty := .int) X K w iX3_miss_3 tyX3 tyX3_ok nmX3 k_o0 rfl (by decide) 14 (by decide) rfl rfl rfl rfl (by decide +kernel) rfl rfl (List.mem_of_getElem? (i := 5) rfl) dX3_miss_73 (fun M19 H locs e w => ?_)
  replace h := h M19 e
  exact r_return X hr hlk K w h dX3_miss_76
theorem dX3_doCue_0 : decode cX3_doCue 0 = .ok (.aload_n 2, 1) := by decide +kernel
theorem dX3_doCue_1 : decode cX3_doCue 1 = .ok (.getfield 99, 3) := by decide +kernel
theorem dX3_doCue_4 : decode cX3_doCue 4 = .ok (.aload_n 2, 1) := by decide +kernel
theorem dX3_doCue_5 : decode cX3_doCue 5 = .ok (.getfield 83, 3) := by decide +kernel
theorem dX3_doCue_8 : decode cX3_doCue 8 = .ok (.getfield 96, 3) := by decide +kernel
theorem dX3_doCue_11 : decode cX3_doCue 11 = .ok (.iload_n 1, 1) := by decide +kernel
theorem dX3_doCue_12 : decode cX3_doCue 12 = .ok (.invokevirtual 72, 3) := by decide +kernel
theorem dX3_doCue_15 : decode cX3_doCue 15 = .ok (.invokevirtual 72, 3) := by decide +kernel
theorem dX3_doCue_18 : decode cX3_doCue 18 = .ok (.istore_n 3, 1) := by decide +kernel
theorem dX3_doCue_19 : decode cX3_doCue 19 = .ok (.aload_n 0, 1) := by decide +kernel
theorem dX3_doCue_20 : decode cX3_doCue 20 = .ok (.iload_n 3, 1) := by decide +kernel
theorem dX3_doCue_21 : decode cX3_doCue 21 = .ok (.aload_n 2, 1) := by decide +kernel
theorem dX3_doCue_22 : decode cX3_doCue 22 = .ok (.getfield 83, 3) := by decide +kernel
theorem dX3_doCue_25 : decode cX3_doCue 25 = .ok (.getfield 102, 3) := by decide +kernel
theorem dX3_doCue_28 : decode cX3_doCue 28 = .ok (.iload_n 1, 1) := by decide +kernel
theorem dX3_doCue_29 : decode cX3_doCue 29 = .ok (.invokevirtual 72, 3) := by decide +kernel
theorem dX3_doCue_32 : decode cX3_doCue 32 = .ok (.invokevirtual 105, 3) := by decide +kernel
theorem dX3_doCue_35 : decode cX3_doCue 35 = .ok (.istore 4, 2) := by decide +kernel
theorem dX3_doCue_37 : decode cX3_doCue 37 = .ok (.aload_n 0, 1) := by decide +kernel
theorem dX3_doCue_38 : decode cX3_doCue 38 = .ok (.iload_n 1, 1) := by decide +kernel
theorem dX3_doCue_39 : decode cX3_doCue 39 = .ok (.aload_n 2, 1) := by decide +kernel
theorem dX3_doCue_40 : decode cX3_doCue 40 = .ok (.iload 4, 2) := by decide +kernel
theorem dX3_doCue_42 : decode cX3_doCue 42 = .ok (.invokevirtual 109, 3) := by decide +kernel
theorem dX3_doCue_45 : decode cX3_doCue 45 = .ok (.istore 5, 2) := by decide +kernel
theorem dX3_doCue_47 : decode cX3_doCue 47 = .ok (.aload_n 0, 1) := by decide +kernel
theorem dX3_doCue_48 : decode cX3_doCue 48 = .ok (.getfield 41, 3) := by decide +kernel
theorem dX3_doCue_51 : decode cX3_doCue 51 = .ok (.iload_n 1, 1) := by decide +kernel
theorem dX3_doCue_52 : decode cX3_doCue 52 = .ok (.iload 5, 2) := by decide +kernel
theorem dX3_doCue_54 : decode cX3_doCue 54 = .ok (.invokevirtual 76, 3) := by decide +kernel
theorem dX3_doCue_57 : decode cX3_doCue 57 = .ok (.iload 5, 2) := by decide +kernel
theorem dX3_doCue_59 : decode cX3_doCue 59 = .ok (.ifCond .ne 18, 3) := by decide +kernel
theorem dX3_doCue_62 : decode cX3_doCue 62 = .ok (.aload_n 0, 1) := by decide +kernel
theorem dX3_doCue_63 : decode cX3_doCue 63 = .ok (.iload_n 1, 1) := by decide +kernel
theorem dX3_doCue_64 : decode cX3_doCue 64 = .ok (.aload_n 2, 1) := by decide +kernel
theorem dX3_doCue_65 : decode cX3_doCue 65 = .ok (.getfield 83, 3) := by decide +kernel
theorem dX3_doCue_68 : decode cX3_doCue 68 = .ok (.iload 4, 2) := by decide +kernel
theorem dX3_doCue_70 : decode cX3_doCue 70 = .ok (.iload_n 3, 1) := by decide +kernel
theorem dX3_doCue_71 : decode cX3_doCue 71 = .ok (.invokevirtual 113, 3) := by decide +kernel
theorem dX3_doCue_74 : decode cX3_doCue 74 = .ok (.goto 9, 3) := by decide +kernel
theorem dX3_doCue_77 : decode cX3_doCue 77 = .ok (.aload_n 0, 1) := by decide +kernel
theorem dX3_doCue_78 : decode cX3_doCue 78 = .ok (.iload_n 1, 1) := by decide +kernel
theorem dX3_doCue_79 : decode cX3_doCue 79 = .ok (.aload_n 2, 1) := by decide +kernel
theorem dX3_doCue_80 : decode cX3_doCue 80 = .ok (.invokevirtual 117, 3) := by decide +kernel
theorem dX3_doCue_83 : decode cX3_doCue 83 = .ok (.return_, 1) := by decide +kernel
set_option maxRecDepth 20000 in
theorem ggX3_doCue_X3_miss : GoodIn wsX3_doCue wsX3_miss := goodIn_r _ [65, 44, 45, 66, 67, 68, 35, 36, 37, 5, 38, 7, 2, 3, 4, 6, 48, 49, 50, 51, 52, 53, 86, 87, 88, 89, 90, 91, 92, 93, 94, 95, 96, 97, 98, 99, 100, 69, 70, 71, 72, 73, 74, 75, 76, 77, 78, 79, 80, 81, 82, 83, 84, 85, 101] (by decide +kernel) (by decide +kernel)
set_option maxRecDepth 20000 in
theorem gX3_doCue_X3_miss : GoodIn wsX3_doCue (wsV RX3 117 RX3 yX3_miss wsX3_miss) := goodIn_app (goodIn_of _ (by decide +kernel)) ggX3_doCue_X3_miss
set_option maxRecDepth 20000 in
theorem ggX3_doCue_X3_nearestHand : GoodIn wsX3_doCue wsX3_nearestHand := goodIn_r _ [12, 13, 14, 15, 16, 17, 11, 18, 19, 20, 21, 22, 23, 2, 3, 4, 5, 6, 7, 86, 87, 88, 89, 90, 91, 92, 93, 94, 95, 96, 97, 98, 99, 100, 101] (by decide +kernel) (by decide +kernel)
set_option maxRecDepth 20000 in
theorem gX3_doCue_X3_nearestHand : GoodIn wsX3_doCue (wsV RX3 105 RX3 yX3_nearestHand wsX3_nearestHand) := goodIn_app (goodIn_of _ (by decide +kernel)) ggX3_doCue_X3_nearestHand
set_option maxRecDepth 20000 in
theorem ggX3_doCue_X3_play : GoodIn wsX3_doCue wsX3_play := goodIn_r _ [42, 43, 44, 45, 46, 47, 19, 14, 28, 34, 29, 2, 3, 4, 5, 6, 7, 15, 16, 17, 11, 18, 20, 21, 22, 23, 30, 31, 32, 33, 48, 49, 50, 51, 52, 53, 36, 37, 38, 35, 54, 55, 56, 57, 58, 59, 60, 61, 80, 81, 82, 83, 84, 85, 86, 87, 88, 89, 90, 91, 92, 93, 94, 95, 96, 97, 98, 99, 100, 101] (by decide +kernel) (by decide +kernel)
set_option maxRecDepth 20000 in
theorem gX3_doCue_X3_play : GoodIn wsX3_doCue (wsV RX3 113 RX3 yX3_play wsX3_play) := goodIn_app (goodIn_of _ (by decide +kernel)) ggX3_doCue_X3_play
set_option maxRecDepth 20000 in
theorem ggX3_doCue_X3_reasonToMiss : GoodIn wsX3_doCue wsX3_reasonToMiss := goodIn_r _ [27, 28, 29, 2, 3, 4, 5, 6, 7, 30, 31, 32, 11, 33, 34, 69, 70, 71, 72, 73, 74, 75, 76, 77, 78, 79, 80, 81, 82, 83, 84, 85, 86, 87, 88, 89, 90, 91, 92, 93, 94, 95, 96, 97, 98, 99, 100, 101] (by decide +kernel) (by decide +kernel)
set_option maxRecDepth 20000 in
theorem gX3_doCue_X3_reasonToMiss : GoodIn wsX3_doCue (wsV RX3 109 RX3 yX3_reasonToMiss wsX3_reasonToMiss) := goodIn_app (goodIn_of _ (by decide +kernel)) ggX3_doCue_X3_reasonToMiss
set_option maxRecDepth 20000 in
theorem ggX3_doCue_X4_get : GoodIn wsX3_doCue wsX4_get := goodIn_r _ [6, 7, 101] (by decide +kernel) (by decide +kernel)
set_option maxRecDepth 20000 in
theorem gX3_doCue_X4_get : GoodIn wsX3_doCue (wsV RX3 72 RX4 yX4_get wsX4_get) := goodIn_app (goodIn_of _ (by decide +kernel)) ggX3_doCue_X4_get
set_option maxRecDepth 20000 in
theorem ggX3_doCue_X4_put : GoodIn wsX3_doCue wsX4_put := goodIn_r _ [38, 7, 101] (by decide +kernel) (by decide +kernel)
set_option maxRecDepth 20000 in
theorem gX3_doCue_X4_put : GoodIn wsX3_doCue (wsV RX3 76 RX4 yX4_put wsX4_put) := goodIn_app (goodIn_of _ (by decide +kernel)) ggX3_doCue_X4_put
theorem iX3_doCue_0 : ∀ w ∈ u_ws RX0 TX0 6, w ∈ wsX3_doCue := fun w h => List.mem_cons_of_mem _ (List.mem_append_left _ (List.mem_append_left _ (List.mem_append_right _ (h))))
theorem iX3_doCue_3 : ∀ w ∈ u_ws RX3 TX3 15, w ∈ wsX3_doCue := fun w h => List.mem_cons_of_mem _ (List.mem_append_left _ (List.mem_append_right _ (h)))
theorem iX3_doCue_5 : ∀ w ∈ u_ws RX5 TX5 11, w ∈ wsX3_doCue := fun w h => List.mem_cons_of_mem _ (List.mem_append_left _ (List.mem_append_left _ (List.mem_append_left _ (List.mem_append_right _ (h)))))
set_option maxHeartbeats 4000000 in
set_option maxRecDepth 100000 in
theorem c_X3_doCue {E : EE} {l : Launch} {g : GG} {ad : Nat → Nat} (hg : gwf g) {o0 : Nat} {x1 : Int} {o2 : Nat} {M : Mm} {Q : Mm → Prop} (k_o0 : gk g o0 = 3) (k_o2 : gk g o2 = 5) (h : p_X3_doCue g o0 x1 o2 M Q) : Ct E l yX3_doCue wsX3_doCue rmX3_doCue g ad [.ref (ad o0), cI x1, .ref (ad o2)] M (QV E g ad Q) := by
  refine ent (cc := cX3_doCue) (maxL := 6) (ret := none) (own := RX3) (by decide +kernel) rfl rfl (Nat.le_of_ble_eq_true rfl) ?_
  intro p e s m below meth c ls X hr hlk K w hl
  have hl : lv_has ls 6 [(0, .ref (ad o0)), (1, cI x1), (2, .ref (ad o2))] := hl
  unfold p_X3_doCue at h
  refine lv_aload_n X.1 X.2.1 dX3_doCue_0 rfl (lv_at hl 2 rfl) ?_
  refine r_getrN (N := 11) (T := TX5) X K w iX3_doCue_5 k_o2 rfl (by decide) 0 (by decide) rfl rfl (List.mem_of_getElem? (i := 9) rfl) dX3_doCue_1 ?_
  have k1 : gk g (o2 + 1) = 4 := gch hg k_o2 (by decide) 0 (by decide) rfl rfl
  refine lv_aload_n X.1 X.2.1 dX3_doCue_4 rfl (lv_at hl 2 rfl) ?_
  refine r_getrN (N := 11) (T := TX5) X K w iX3_doCue_5 k_o2 rfl (by decide) 4 (by decide) rfl rfl (List.mem_of_getElem? (i := 15) rfl) dX3_doCue_5 ?_
  have k2 : gk g (o2 + 9) = 0 := gch hg k_o2 (by decide) 4 (by decide) rfl rfl
  refine r_getrN (N := 6) (T := TX0) X K w iX3_doCue_0 k2 rfl (by decide) 3 (by decide) rfl rfl (List.mem_of_getElem? (i := 4) rfl) dX3_doCue_8 ?_
  have k3 : gk g ((o2 + 9) + 5) = 4 := gch hg k2 (by decide) 3 (by decide) rfl rfl
  refine lv_iload_n X.1 X.2.1 dX3_doCue_11 rfl (lv_at hl 1 rfl) ?_
  refine q_i (x_V (As := [cI x1]) (rest := [.ref (ad (o2 + 1))]) X K w (c_X4_get hg k3 h) (cwV 1 X.2.2.2.2 gX3_doCue_X4_get rfl rfl rfl (by decide +kernel) ⟨Nat.le_of_ble_eq_true rfl, Nat.le_of_ble_eq_true rfl⟩) k3 (by decide) rfl rfl hl rfl (Nat.le_of_ble_eq_true rfl) dX3_doCue_12 ⟨Nat.le_of_ble_eq_true rfl, Nat.le_of_ble_eq_true rfl⟩) w (fun r5 M4 H locs h w => ?_)
  refine q_i (x_V (As := [cI r5]) (rest := []) X K w (c_X4_get hg k1 h) (cwV 1 X.2.2.2.2 gX3_doCue_X4_get rfl rfl rfl (by decide +kernel) ⟨Nat.le_of_ble_eq_true rfl, Nat.le_of_ble_eq_true rfl⟩) k1 (by decide) rfl rfl hl rfl (Nat.le_of_ble_eq_true rfl) dX3_doCue_15 ⟨Nat.le_of_ble_eq_true rfl, Nat.le_of_ble_eq_true rfl⟩) w (fun r7 M6 H locs h w => ?_)
  refine lv_istore_n (lv' := [(3, cI r7), (0, .ref (ad o0)), (1, cI x1), (2, .ref (ad o2))]) X.1 X.2.1 dX3_doCue_18 rfl hl (by decide) rfl (fun ls hl => ?_)
  refine lv_aload_n X.1 X.2.1 dX3_doCue_19 rfl (lv_at hl 1 rfl) ?_
  refine lv_iload_n X.1 X.2.1 dX3_doCue_20 rfl (lv_at hl 0 rfl) ?_
  refine lv_aload_n X.1 X.2.1 dX3_doCue_21 rfl (lv_at hl 3 rfl) ?_
  refine r_getrN (N := 11) (T := TX5) X K w iX3_doCue_5 k_o2 rfl (by decide) 4 (by decide) rfl rfl (List.mem_of_getElem? (i := 15) rfl) dX3_doCue_22 ?_
  have k8 : gk g (o2 + 9) = 0 := gch hg k_o2 (by decide) 4 (by decide) rfl rfl
  refine r_getrN (N := 6) (T := TX0) X K w iX3_doCue_0 k8 rfl (by decide) 1 (by decide) rfl rfl (List.mem_of_getElem? (i := 0) rfl) dX3_doCue_25 ?_
  have k9 : gk g ((o2 + 9) + 1) = 4 := gch hg k8 (by decide) 1 (by decide) rfl rfl
  refine lv_iload_n X.1 X.2.1 dX3_doCue_28 rfl (lv_at hl 2 rfl) ?_
  refine q_i (x_V (As := [cI x1]) (rest := [cI r7, .ref (ad o0)]) X K w (c_X4_get hg k9 h) (cwV 1 X.2.2.2.2 gX3_doCue_X4_get rfl rfl rfl (by decide +kernel) ⟨Nat.le_of_ble_eq_true rfl, Nat.le_of_ble_eq_true rfl⟩) k9 (by decide) rfl rfl hl rfl (Nat.le_of_ble_eq_true rfl) dX3_doCue_29 ⟨Nat.le_of_ble_eq_true rfl, Nat.le_of_ble_eq_true rfl⟩) w (fun r11 M10 H locs h w => ?_)
  refine q_i (x_V (As := [cI r7, cI r11]) (rest := []) X K w (c_X3_nearestHand hg k_o0 h) (cwV 2 X.2.2.2.2 gX3_doCue_X3_nearestHand rfl rfl rfl (by decide +kernel) ⟨Nat.le_of_ble_eq_true rfl, Nat.le_of_ble_eq_true rfl⟩) k_o0 (by decide) rfl rfl hl rfl (Nat.le_of_ble_eq_true rfl) dX3_doCue_32 ⟨Nat.le_of_ble_eq_true rfl, Nat.le_of_ble_eq_true rfl⟩) w (fun r13 M12 H locs h w => ?_)
  refine lv_istore (lv' := [(4, cI r13), (3, cI r7), (0, .ref (ad o0)), (1, cI x1), (2, .ref (ad o2))]) X.1 X.2.1 dX3_doCue_35 hl (by decide) rfl (fun ls hl => ?_)
  refine lv_aload_n X.1 X.2.1 dX3_doCue_37 rfl (lv_at hl 2 rfl) ?_
  refine lv_iload_n X.1 X.2.1 dX3_doCue_38 rfl (lv_at hl 3 rfl) ?_
  refine lv_aload_n X.1 X.2.1 dX3_doCue_39 rfl (lv_at hl 4 rfl) ?_
  refine lv_iload X.1 X.2.1 dX3_doCue_40 (lv_at hl 0 rfl) ?_
  refine q_i (x_V (As := [cI x1, .ref (ad o2), cI r13]) (rest := []) X K w (c_X3_reasonToMiss hg k_o0 k_o2 h) (cwV 3 X.2.2.2.2 gX3_doCue_X3_reasonToMiss rfl rfl rfl (by decide +kernel) ⟨Nat.le_of_ble_eq_true rfl, Nat.le_of_ble_eq_true rfl⟩) k_o0 (by decide) rfl rfl hl rfl (Nat.le_of_ble_eq_true rfl) dX3_doCue_42 ⟨Nat.le_of_ble_eq_true rfl, Nat.le_of_ble_eq_true rfl⟩) w (fun r15 M14 H locs h w => ?_)
  refine lv_istore (lv' := [(5, cI r15), (4, cI r13), (3, cI r7), (0, .ref (ad o0)), (1, cI x1), (2, .ref (ad o2))]) X.1 X.2.1 dX3_doCue_45 hl (by decide) rfl (fun ls hl => ?_)
  refine lv_aload_n X.1 X.2.1 dX3_doCue_47 rfl (lv_at hl 3 rfl) ?_
  refine r_getr (N := 15) (T := TX3) X K w iX3_doCue_3 k_o0 rfl (by decide) 8 (by decide) rfl rfl (List.mem_of_getElem? (i := 1) rfl) dX3_doCue_48 ?_
  have k16 : gk g (o0 + 17) = 4 := gch hg k_o0 (by decide) 8 (by decide) rfl rfl
  refine lv_iload_n X.1 X.2.1 dX3_doCue_51 rfl (lv_at hl 4 rfl) ?_
  refine lv_iload X.1 X.2.1 dX3_doCue_52 (lv_at hl 0 rfl) ?_
  refine q_v (x_V (As := [cI x1, cI r15]) (rest := []) X K w (c_X4_put hg k16 h) (cwV 2 X.2.2.2.2 gX3_doCue_X4_put rfl rfl rfl (by decide +kernel) ⟨Nat.le_of_ble_eq_true rfl, Nat.le_of_ble_eq_true rfl⟩) k16 (by decide) rfl rfl hl rfl (Nat.le_of_ble_eq_true rfl) dX3_doCue_54 ⟨Nat.le_of_ble_eq_true rfl, Nat.le_of_ble_eq_true rfl⟩) w (fun M17 H locs h w => ?_)
  refine lv_iload X.1 X.2.1 dX3_doCue_57 (lv_at hl 0 rfl) ?_
  obtain ⟨i0, h1, h2⟩ := h
  refine r_if_ne (tgt := 77) X i0 dX3_doCue_59 (by decide) (fun cc => ?_) (fun cc => ?_)
  · have h := h1 cc
    refine lv_aload_n X.1 X.2.1 dX3_doCue_77 rfl (lv_at hl 3 rfl) ?_
    refine lv_iload_n X.1 X.2.1 dX3_doCue_78 rfl (lv_at hl 4 rfl) ?_
    refine lv_aload_n X.1 X.2.1 dX3_doCue_79 rfl (lv_at hl 5 rfl) ?_
    refine q_v (x_V (As := [cI x1, .ref (ad o2)]) (rest := []) X K w (c_X3_miss hg k_o0 k_o2 h) (cwV 2 X.2.2.2.2 gX3_doCue_X3_miss rfl rfl rfl (by decide +kernel) ⟨Nat.le_of_ble_eq_true rfl, Nat.le_of_ble_eq_true rfl⟩) k_o0 (by decide) rfl rfl hl rfl (Nat.le_of_ble_eq_true rfl) dX3_doCue_80 ⟨Nat.le_of_ble_eq_true rfl, Nat.le_of_ble_eq_true rfl⟩) w (fun M18 H locs h w => ?_)
    exact r_return X hr hlk K w h dX3_doCue_83
  · have h := h2 cc
    refine lv_aload_n X.1 X.2.1 dX3_doCue_62 rfl (lv_at hl 3 rfl) ?_
    refine lv_iload_n X.1 X.2.1 dX3_doCue_63 rfl (lv_at hl 4 rfl) ?_
    refine lv_aload_n X.1 X.2.1 dX3_doCue_64 rfl (lv_at hl 5 rfl) ?_
    refine r_getrN (N := 11) (T := TX5) X K w iX3_doCue_5 k_o2 rfl (by decide) 4 (by decide) rfl rfl (List.mem_of_getElem? (i := 15) rfl) dX3_doCue_65 ?_
    have k19 : gk g (o2 + 9) = 0 := gch hg k_o2 (by decide) 4 (by decide) rfl rfl
    refine lv_iload X.1 X.2.1 dX3_doCue_68 (lv_at hl 1 rfl) ?_
    refine lv_iload_n X.1 X.2.1 dX3_doCue_70 rfl (lv_at hl 2 rfl) ?_
    refine q_v (x_V (As := [cI x1, .ref (ad (o2 + 9)), cI r13, cI r7]) (rest := []) X K w (c_X3_play hg k_o0 k19 h) (cwV 4 X.2.2.2.2 gX3_doCue_X3_play rfl rfl rfl (by decide +kernel) ⟨Nat.le_of_ble_eq_true rfl, Nat.le_of_ble_eq_true rfl⟩) k_o0 (by decide) rfl rfl hl rfl (Nat.le_of_ble_eq_true rfl) dX3_doCue_71 ⟨Nat.le_of_ble_eq_true rfl, Nat.le_of_ble_eq_true rfl⟩) w (fun M20 H locs h w => ?_)
    refine lv_goto (tgt := 83) X.1 X.2.1 dX3_doCue_74 (by decide) ?_
    exact r_return X hr hlk K w h dX3_doCue_83
theorem dX3_playTake_0 : decode cX3_playTake 0 = .ok (.aload_n 0, 1) := by decide +kernel
theorem dX3_playTake_1 : decode cX3_playTake 1 = .ok (.getfield 20, 3) := by decide +kernel
theorem dX3_playTake_4 : decode cX3_playTake 4 = .ok (.iconst (-1), 1) := by decide +kernel
theorem dX3_playTake_5 : decode cX3_playTake 5 = .ok (.invokevirtual 80, 3) := by decide +kernel
theorem dX3_playTake_8 : decode cX3_playTake 8 = .ok (.aload_n 0, 1) := by decide +kernel
theorem dX3_playTake_9 : decode cX3_playTake 9 = .ok (.getfield 23, 3) := by decide +kernel
theorem dX3_playTake_12 : decode cX3_playTake 12 = .ok (.iconst 0, 1) := by decide +kernel
theorem dX3_playTake_13 : decode cX3_playTake 13 = .ok (.invokevirtual 80, 3) := by decide +kernel
theorem dX3_playTake_16 : decode cX3_playTake 16 = .ok (.aload_n 0, 1) := by decide +kernel
theorem dX3_playTake_17 : decode cX3_playTake 17 = .ok (.getfield 29, 3) := by decide +kernel
theorem dX3_playTake_20 : decode cX3_playTake 20 = .ok (.iconst 0, 1) := by decide +kernel
theorem dX3_playTake_21 : decode cX3_playTake 21 = .ok (.invokevirtual 80, 3) := by decide +kernel
theorem dX3_playTake_24 : decode cX3_playTake 24 = .ok (.aload_n 0, 1) := by decide +kernel
theorem dX3_playTake_25 : decode cX3_playTake 25 = .ok (.getfield 32, 3) := by decide +kernel
theorem dX3_playTake_28 : decode cX3_playTake 28 = .ok (.iconst 0, 1) := by decide +kernel
theorem dX3_playTake_29 : decode cX3_playTake 29 = .ok (.invokevirtual 80, 3) := by decide +kernel
theorem dX3_playTake_32 : decode cX3_playTake 32 = .ok (.aload_n 0, 1) := by decide +kernel
theorem dX3_playTake_33 : decode cX3_playTake 33 = .ok (.getfield 35, 3) := by decide +kernel
theorem dX3_playTake_36 : decode cX3_playTake 36 = .ok (.iconst 0, 1) := by decide +kernel
theorem dX3_playTake_37 : decode cX3_playTake 37 = .ok (.invokevirtual 80, 3) := by decide +kernel
theorem dX3_playTake_40 : decode cX3_playTake 40 = .ok (.aload_n 0, 1) := by decide +kernel
theorem dX3_playTake_41 : decode cX3_playTake 41 = .ok (.getfield 47, 3) := by decide +kernel
theorem dX3_playTake_44 : decode cX3_playTake 44 = .ok (.iconst 0, 1) := by decide +kernel
theorem dX3_playTake_45 : decode cX3_playTake 45 = .ok (.invokevirtual 80, 3) := by decide +kernel
theorem dX3_playTake_48 : decode cX3_playTake 48 = .ok (.aload_n 0, 1) := by decide +kernel
theorem dX3_playTake_49 : decode cX3_playTake 49 = .ok (.getfield 50, 3) := by decide +kernel
theorem dX3_playTake_52 : decode cX3_playTake 52 = .ok (.iconst 0, 1) := by decide +kernel
theorem dX3_playTake_53 : decode cX3_playTake 53 = .ok (.invokevirtual 80, 3) := by decide +kernel
theorem dX3_playTake_56 : decode cX3_playTake 56 = .ok (.aload_n 0, 1) := by decide +kernel
theorem dX3_playTake_57 : decode cX3_playTake 57 = .ok (.iconst 0, 1) := by decide +kernel
theorem dX3_playTake_58 : decode cX3_playTake 58 = .ok (.putfield 57, 3) := by decide +kernel
theorem dX3_playTake_61 : decode cX3_playTake 61 = .ok (.aload_n 0, 1) := by decide +kernel
theorem dX3_playTake_62 : decode cX3_playTake 62 = .ok (.iconst 0, 1) := by decide +kernel
theorem dX3_playTake_63 : decode cX3_playTake 63 = .ok (.putfield 60, 3) := by decide +kernel
theorem dX3_playTake_66 : decode cX3_playTake 66 = .ok (.iconst 0, 1) := by decide +kernel
theorem dX3_playTake_67 : decode cX3_playTake 67 = .ok (.istore_n 2, 1) := by decide +kernel
theorem dX3_playTake_68 : decode cX3_playTake 68 = .ok (.iload_n 2, 1) := by decide +kernel
theorem dX3_playTake_69 : decode cX3_playTake 69 = .ok (.aload_n 1, 1) := by decide +kernel
theorem dX3_playTake_70 : decode cX3_playTake 70 = .ok (.getfield 83, 3) := by decide +kernel
theorem dX3_playTake_73 : decode cX3_playTake 73 = .ok (.getfield 87, 3) := by decide +kernel
theorem dX3_playTake_76 : decode cX3_playTake 76 = .ok (.if_icmp .ge 15, 3) := by decide +kernel
theorem dX3_playTake_79 : decode cX3_playTake 79 = .ok (.aload_n 0, 1) := by decide +kernel
theorem dX3_playTake_80 : decode cX3_playTake 80 = .ok (.iload_n 2, 1) := by decide +kernel
theorem dX3_playTake_81 : decode cX3_playTake 81 = .ok (.aload_n 1, 1) := by decide +kernel
theorem dX3_playTake_82 : decode cX3_playTake 82 = .ok (.invokevirtual 92, 3) := by decide +kernel
theorem dX3_playTake_85 : decode cX3_playTake 85 = .ok (.iinc 2 1, 3) := by decide +kernel
theorem dX3_playTake_88 : decode cX3_playTake 88 = .ok (.goto (-20), 3) := by decide +kernel
theorem dX3_playTake_91 : decode cX3_playTake 91 = .ok (.return_, 1) := by decide +kernel
set_option maxRecDepth 20000 in
theorem ggX3_playTake_X3_doCue : GoodIn wsX3_playTake wsX3_doCue := goodIn_r _ [20, 21, 22, 23, 24, 13, 25, 15, 26, 27, 28, 19, 29, 30, 3, 31, 32, 33, 34, 35, 36, 37, 38, 39, 40, 41, 42, 43, 44, 2, 45, 46, 47, 48, 1, 49, 50, 51, 52, 53, 54, 55, 56, 7, 57, 58, 4, 5, 59, 60, 61, 62, 63, 64, 65, 66, 67, 68, 69, 70, 71, 72, 73, 74, 75, 76, 6, 8, 9, 92, 93, 94, 95, 96, 97, 98, 99, 100, 101, 102, 103, 104, 105, 106, 107, 108, 77, 78, 79, 80, 81, 82, 83, 84, 85, 86, 87, 88, 89, 90, 91, 109] (by decide +kernel) (by decide +kernel)
set_option maxRecDepth 20000 in
theorem gX3_playTake_X3_doCue : GoodIn wsX3_playTake (wsV RX3 92 RX3 yX3_doCue wsX3_doCue) := goodIn_app (goodIn_of _ (by decide +kernel)) ggX3_playTake_X3_doCue
set_option maxRecDepth 20000 in
theorem ggX3_playTake_X4_fill : GoodIn wsX3_playTake wsX4_fill := goodIn_r _ [14, 15, 109] (by decide +kernel) (by decide +kernel)
set_option maxRecDepth 20000 in
theorem gX3_playTake_X4_fill : GoodIn wsX3_playTake (wsV RX3 80 RX4 yX4_fill wsX4_fill) := goodIn_app (goodIn_of _ (by decide +kernel)) ggX3_playTake_X4_fill
theorem iX3_playTake_0 : ∀ w ∈ u_ws RX0 TX0 6, w ∈ wsX3_playTake := fun w h => List.mem_cons_of_mem _ (List.mem_append_left _ (List.mem_append_right _ (h)))
theorem iX3_playTake_3 : ∀ w ∈ u_ws RX3 TX3 15, w ∈ wsX3_playTake := fun w h => List.mem_cons_of_mem _ (List.mem_append_left _ (List.mem_append_left _ (List.mem_append_left _ (List.mem_append_right _ (h)))))
theorem iX3_playTake_5 : ∀ w ∈ u_ws RX5 TX5 11, w ∈ wsX3_playTake := fun w h => List.mem_cons_of_mem _ (List.mem_append_left _ (List.mem_append_left _ (List.mem_append_right _ (h))))
set_option maxHeartbeats 4000000 in
set_option maxRecDepth 100000 in
theorem w_X3_playTake_L68 {p : Program} {l : Launch} {e : Env} {s : State} {m : MethodId} {args : Array Value} {below : List Frame} {meth : Method} {c : Code} {E : EE} {g : GG} {ad : Nat → Nat} (hg : gwf g) (X : CallFix p m c cX3_playTake 3 s args wsX3_playTake RX3) (K : Kn E s) (hr : meth.sig.returnType = none) (hlk : meth.locks = false) {Q : Mm → Prop} : ∀ (n : Nat) (o0 : Nat) (o1 : Nat) (x2 : Int) (M : Mm) (H : Heap) (locs : List Loc) (ls : Array Slot), gk g o0 = 3 → gk g o1 = 5 → Rw E g ad M s.heap H locs → lv_has ls 3 [(0, .ref (ad o0)), (1, .ref (ad o1)), (2, cI x2)] → p_X3_playTake_L68 g n o0 o1 x2 M Q → W p l e rmX3_playTake s m args below meth c H locs 0 0 (MQ below (QV E g ad Q) args s 0 0 (Rg g ad)) (F0 m 68 ls []) := by
  intro n
  induction n with
  | zero =>
    intro o0 o1 x2 M H locs ls k_o0 k_o1 w hl h
    exact absurd h (by unfold p_X3_playTake_L68; exact id)
  | succ n ih =>
    intro o0 o1 x2 M H locs ls k_o0 k_o1 w hl h
    unfold p_X3_playTake_L68 at h
    refine lv_iload_n X.1 X.2.1 dX3_playTake_68 rfl (lv_at hl 2 rfl) ?_
    refine lv_aload_n X.1 X.2.1 dX3_playTake_69 rfl (lv_at hl 1 rfl) ?_
    refine r_getrN (N := 11) (T := TX5) X K w iX3_playTake_5 k_o1 rfl (by decide) 4 (by decide) rfl rfl (List.mem_of_getElem? (i := 15) rfl) dX3_playTake_70 ?_
    have k17 : gk g (o1 + 9) = 0 := gch hg k_o1 (by decide) 4 (by decide) rfl rfl
    refine r_getiN (N := 6) (T := TX0) (kz := 5) X K w iX3_playTake_0 k17 rfl (by decide) 5 (by decide) rfl rfl rfl (List.mem_of_getElem? (i := 7) rfl) dX3_playTake_73 ?_
    obtain ⟨i0, i1, h1, h2⟩ := h
    refine r_icmp_ge (tgt := 91) X i0 i1 dX3_playTake_76 (by decide) (fun cc => ?_) (fun cc => ?_)
    · have h := h1 cc
      exact r_return X hr hlk K w h dX3_playTake_91
    · have h := h2 cc
      refine lv_aload_n X.1 X.2.1 dX3_playTake_79 rfl (lv_at hl 0 rfl) ?_
      refine lv_iload_n X.1 X.2.1 dX3_playTake_80 rfl (lv_at hl 2 rfl) ?_
      refine lv_aload_n X.1 X.2.1 dX3_playTake_81 rfl (lv_at hl 1 rfl) ?_
      refine q_v (x_V (As := [cI x2, .ref (ad o1)]) (rest := []) X K w (c_X3_doCue hg k_o0 k_o1 h) (cwV 2 X.2.2.2.2 gX3_playTake_X3_doCue rfl rfl rfl (by decide +kernel) ⟨Nat.le_of_ble_eq_true rfl, Nat.le_of_ble_eq_true rfl⟩) k_o0 (by decide) rfl rfl hl rfl (Nat.le_of_ble_eq_true rfl) dX3_playTake_82 ⟨Nat.le_of_ble_eq_true rfl, Nat.le_of_ble_eq_true rfl⟩) w (fun M18 H locs h w => ?_)
      refine r_iinc (lv' := [(2, cI (x2 + 1)), (0, .ref (ad o0)), (1, .ref (ad o1))]) X hl (k := 2) rfl (by decide) dX3_playTake_85 rfl (fun ls hl => ?_)
      refine lv_goto (tgt := 68) X.1 X.2.1 dX3_playTake_88 (by decide) ?_
      exact ih o0 o1 (x2 + 1) M18 _ _ _ k_o0 k_o1 w (lv_sub hl [1, 2, 0] rfl) h
set_option maxHeartbeats 4000000 in
set_option maxRecDepth 100000 in
theorem c_X3_playTake {E : EE} {l : Launch} {g : GG} {ad : Nat → Nat} (hg : gwf g) {o0 : Nat} {o1 : Nat} {M : Mm} {Q : Mm → Prop} (k_o0 : gk g o0 = 3) (k_o1 : gk g o1 = 5) (h : p_X3_playTake g o0 o1 M Q) : Ct E l yX3_playTake wsX3_playTake rmX3_playTake g ad [.ref (ad o0), .ref (ad o1)] M (QV E g ad Q) := by
  refine ent (cc := cX3_playTake) (maxL := 3) (ret := none) (own := RX3) (by decide +kernel) rfl rfl (Nat.le_of_ble_eq_true rfl) ?_
  intro p e s m below meth c ls X hr hlk K w hl
  have hl : lv_has ls 3 [(0, .ref (ad o0)), (1, .ref (ad o1))] := hl
  unfold p_X3_playTake at h
  refine lv_aload_n X.1 X.2.1 dX3_playTake_0 rfl (lv_at hl 0 rfl) ?_
  refine r_getr (N := 15) (T := TX3) X K w iX3_playTake_3 k_o0 rfl (by decide) 1 (by decide) rfl rfl (List.mem_of_getElem? (i := 1) rfl) dX3_playTake_1 ?_
  have k1 : gk g (o0 + 3) = 4 := gch hg k_o0 (by decide) 1 (by decide) rfl rfl
  refine r_iconst X dX3_playTake_4 ?_
  refine q_v (x_V (As := [cI (-1)]) (rest := []) X K w (c_X4_fill hg k1 h) (cwV 1 X.2.2.2.2 gX3_playTake_X4_fill rfl rfl rfl (by decide +kernel) ⟨Nat.le_of_ble_eq_true rfl, Nat.le_of_ble_eq_true rfl⟩) k1 (by decide) rfl rfl hl rfl (Nat.le_of_ble_eq_true rfl) dX3_playTake_5 ⟨Nat.le_of_ble_eq_true rfl, Nat.le_of_ble_eq_true rfl⟩) w (fun M2 H locs h w => ?_)
  refine lv_aload_n X.1 X.2.1 dX3_playTake_8 rfl (lv_at hl 0 rfl) ?_
  refine r_getr (N := 15) (T := TX3) X K w iX3_playTake_3 k_o0 rfl (by decide) 2 (by decide) rfl rfl (List.mem_of_getElem? (i := 2) rfl) dX3_playTake_9 ?_
  have k3 : gk g (o0 + 5) = 4 := gch hg k_o0 (by decide) 2 (by decide) rfl rfl
  refine r_iconst X dX3_playTake_12 ?_
  refine q_v (x_V (As := [cI 0]) (rest := []) X K w (c_X4_fill hg k3 h) (cwV 1 X.2.2.2.2 gX3_playTake_X4_fill rfl rfl rfl (by decide +kernel) ⟨Nat.le_of_ble_eq_true rfl, Nat.le_of_ble_eq_true rfl⟩) k3 (by decide) rfl rfl hl rfl (Nat.le_of_ble_eq_true rfl) dX3_playTake_13 ⟨Nat.le_of_ble_eq_true rfl, Nat.le_of_ble_eq_true rfl⟩) w (fun M4 H locs h w => ?_)
  refine lv_aload_n X.1 X.2.1 dX3_playTake_16 rfl (lv_at hl 0 rfl) ?_
  refine r_getr (N := 15) (T := TX3) X K w iX3_playTake_3 k_o0 rfl (by decide) 4 (by decide) rfl rfl (List.mem_of_getElem? (i := 3) rfl) dX3_playTake_17 ?_
  have k5 : gk g (o0 + 9) = 4 := gch hg k_o0 (by decide) 4 (by decide) rfl rfl
  refine r_iconst X dX3_playTake_20 ?_
  refine q_v (x_V (As := [cI 0]) (rest := []) X K w (c_X4_fill hg k5 h) (cwV 1 X.2.2.2.2 gX3_playTake_X4_fill rfl rfl rfl (by decide +kernel) ⟨Nat.le_of_ble_eq_true rfl, Nat.le_of_ble_eq_true rfl⟩) k5 (by decide) rfl rfl hl rfl (Nat.le_of_ble_eq_true rfl) dX3_playTake_21 ⟨Nat.le_of_ble_eq_true rfl, Nat.le_of_ble_eq_true rfl⟩) w (fun M6 H locs h w => ?_)
  refine lv_aload_n X.1 X.2.1 dX3_playTake_24 rfl (lv_at hl 0 rfl) ?_
  refine r_getr (N := 15) (T := TX3) X K w iX3_playTake_3 k_o0 rfl (by decide) 5 (by decide) rfl rfl (List.mem_of_getElem? (i := 4) rfl) dX3_playTake_25 ?_
  have k7 : gk g (o0 + 11) = 4 := gch hg k_o0 (by decide) 5 (by decide) rfl rfl
  refine r_iconst X dX3_playTake_28 ?_
  refine q_v (x_V (As := [cI 0]) (rest := []) X K w (c_X4_fill hg k7 h) (cwV 1 X.2.2.2.2 gX3_playTake_X4_fill rfl rfl rfl (by decide +kernel) ⟨Nat.le_of_ble_eq_true rfl, Nat.le_of_ble_eq_true rfl⟩) k7 (by decide) rfl rfl hl rfl (Nat.le_of_ble_eq_true rfl) dX3_playTake_29 ⟨Nat.le_of_ble_eq_true rfl, Nat.le_of_ble_eq_true rfl⟩) w (fun M8 H locs h w => ?_)
  refine lv_aload_n X.1 X.2.1 dX3_playTake_32 rfl (lv_at hl 0 rfl) ?_
  refine r_getr (N := 15) (T := TX3) X K w iX3_playTake_3 k_o0 rfl (by decide) 6 (by decide) rfl rfl (List.mem_of_getElem? (i := 5) rfl) dX3_playTake_33 ?_
  have k9 : gk g (o0 + 13) = 4 := gch hg k_o0 (by decide) 6 (by decide) rfl rfl
  refine r_iconst X dX3_playTake_36 ?_
  refine q_v (x_V (As := [cI 0]) (rest := []) X K w (c_X4_fill hg k9 h) (cwV 1 X.2.2.2.2 gX3_playTake_X4_fill rfl rfl rfl (by decide +kernel) ⟨Nat.le_of_ble_eq_true rfl, Nat.le_of_ble_eq_true rfl⟩) k9 (by decide) rfl rfl hl rfl (Nat.le_of_ble_eq_true rfl) dX3_playTake_37 ⟨Nat.le_of_ble_eq_true rfl, Nat.le_of_ble_eq_true rfl⟩) w (fun M10 H locs h w => ?_)
  refine lv_aload_n X.1 X.2.1 dX3_playTake_40 rfl (lv_at hl 0 rfl) ?_
  refine r_getr (N := 15) (T := TX3) X K w iX3_playTake_3 k_o0 rfl (by decide) 10 (by decide) rfl rfl (List.mem_of_getElem? (i := 6) rfl) dX3_playTake_41 ?_
  have k11 : gk g (o0 + 21) = 4 := gch hg k_o0 (by decide) 10 (by decide) rfl rfl
  refine r_iconst X dX3_playTake_44 ?_
  refine q_v (x_V (As := [cI 0]) (rest := []) X K w (c_X4_fill hg k11 h) (cwV 1 X.2.2.2.2 gX3_playTake_X4_fill rfl rfl rfl (by decide +kernel) ⟨Nat.le_of_ble_eq_true rfl, Nat.le_of_ble_eq_true rfl⟩) k11 (by decide) rfl rfl hl rfl (Nat.le_of_ble_eq_true rfl) dX3_playTake_45 ⟨Nat.le_of_ble_eq_true rfl, Nat.le_of_ble_eq_true rfl⟩) w (fun M12 H locs h w => ?_)
  refine lv_aload_n X.1 X.2.1 dX3_playTake_48 rfl (lv_at hl 0 rfl) ?_
  refine r_getr (N := 15) (T := TX3) X K w iX3_playTake_3 k_o0 rfl (by decide) 11 (by decide) rfl rfl (List.mem_of_getElem? (i := 7) rfl) dX3_playTake_49 ?_
  have k13 : gk g (o0 + 23) = 4 := gch hg k_o0 (by decide) 11 (by decide) rfl rfl
  refine r_iconst X dX3_playTake_52 ?_
  refine q_v (x_V (As := [cI 0]) (rest := []) X K w (c_X4_fill hg k13 h) (cwV 1 X.2.2.2.2 gX3_playTake_X4_fill rfl rfl rfl (by decide +kernel) ⟨Nat.le_of_ble_eq_true rfl, Nat.le_of_ble_eq_true rfl⟩) k13 (by decide) rfl rfl hl rfl (Nat.le_of_ble_eq_true rfl) dX3_playTake_53 ⟨Nat.le_of_ble_eq_true rfl, Nat.le_of_ble_eq_true rfl⟩) w (fun M14 H locs h w => ?_)
  refine lv_aload_n X.1 X.2.1 dX3_playTake_56 rfl (lv_at hl 0 rfl) ?_
  refine r_iconst X dX3_playTake_57 ?_
  refine r_puti (N := 15) (T := TX3) (kz := 13) (ty := .int) X K w iX3_playTake_3 tyX3 tyX3_ok nmX3 k_o0 rfl (by decide) 13 (by decide) rfl rfl rfl rfl (by decide +kernel) rfl rfl (List.mem_of_getElem? (i := 8) rfl) dX3_playTake_58 (fun M15 H locs e w => ?_)
  replace h := h M15 e
  refine lv_aload_n X.1 X.2.1 dX3_playTake_61 rfl (lv_at hl 0 rfl) ?_
  refine r_iconst X dX3_playTake_62 ?_
  refine r_puti (N := 15) (T := TX3) (kz := 14) (ty := .int) X K w iX3_playTake_3 tyX3 tyX3_ok nmX3 k_o0 rfl (by decide) 14 (by decide) rfl rfl rfl rfl (by decide +kernel) rfl rfl (List.mem_of_getElem? (i := 9) rfl) dX3_playTake_63 (fun M16 H locs e w => ?_)
  replace h := h M16 e
  refine r_iconst X dX3_playTake_66 ?_
  refine lv_istore_n (lv' := [(2, cI 0), (0, .ref (ad o0)), (1, .ref (ad o1))]) X.1 X.2.1 dX3_playTake_67 rfl hl (by decide) rfl (fun ls hl => ?_)
  obtain ⟨n19, h⟩ := h
  exact w_X3_playTake_L68 hg X K hr hlk n19 o0 o1 0 M16 _ _ _ k_o0 k_o1 w (lv_sub hl [1, 2, 0] rfl) h
theorem dX3_playsOfSound_0 : decode cX3_playsOfSound 0 = .ok (.iconst 0, 1) := by decide +kernel
theorem dX3_playsOfSound_1 : decode cX3_playsOfSound 1 = .ok (.istore_n 3, 1) := by decide +kernel
theorem dX3_playsOfSound_2 : decode cX3_playsOfSound 2 = .ok (.iconst 0, 1) := by decide +kernel
theorem dX3_playsOfSound_3 : decode cX3_playsOfSound 3 = .ok (.istore 4, 2) := by decide +kernel
theorem dX3_playsOfSound_5 : decode cX3_playsOfSound 5 = .ok (.iload 4, 2) := by decide +kernel
theorem dX3_playsOfSound_7 : decode cX3_playsOfSound 7 = .ok (.aload_n 2, 1) := by decide +kernel
theorem dX3_playsOfSound_8 : decode cX3_playsOfSound 8 = .ok (.getfield 87, 3) := by decide +kernel
theorem dX3_playsOfSound_11 : decode cX3_playsOfSound 11 = .ok (.if_icmp .ge 37, 3) := by decide +kernel
theorem dX3_playsOfSound_14 : decode cX3_playsOfSound 14 = .ok (.aload_n 2, 1) := by decide +kernel
theorem dX3_playsOfSound_15 : decode cX3_playsOfSound 15 = .ok (.getfield 96, 3) := by decide +kernel
theorem dX3_playsOfSound_18 : decode cX3_playsOfSound 18 = .ok (.iload 4, 2) := by decide +kernel
theorem dX3_playsOfSound_20 : decode cX3_playsOfSound 20 = .ok (.invokevirtual 72, 3) := by decide +kernel
theorem dX3_playsOfSound_23 : decode cX3_playsOfSound 23 = .ok (.iload_n 1, 1) := by decide +kernel
theorem dX3_playsOfSound_24 : decode cX3_playsOfSound 24 = .ok (.if_icmp .ne 18, 3) := by decide +kernel
theorem dX3_playsOfSound_27 : decode cX3_playsOfSound 27 = .ok (.aload_n 0, 1) := by decide +kernel
theorem dX3_playsOfSound_28 : decode cX3_playsOfSound 28 = .ok (.getfield 41, 3) := by decide +kernel
theorem dX3_playsOfSound_31 : decode cX3_playsOfSound 31 = .ok (.iload 4, 2) := by decide +kernel
theorem dX3_playsOfSound_33 : decode cX3_playsOfSound 33 = .ok (.invokevirtual 72, 3) := by decide +kernel
theorem dX3_playsOfSound_36 : decode cX3_playsOfSound 36 = .ok (.ifCond .ne 6, 3) := by decide +kernel
theorem dX3_playsOfSound_39 : decode cX3_playsOfSound 39 = .ok (.iinc 3 1, 3) := by decide +kernel
theorem dX3_playsOfSound_42 : decode cX3_playsOfSound 42 = .ok (.iinc 4 1, 3) := by decide +kernel
theorem dX3_playsOfSound_45 : decode cX3_playsOfSound 45 = .ok (.goto (-40), 3) := by decide +kernel
theorem dX3_playsOfSound_48 : decode cX3_playsOfSound 48 = .ok (.iload_n 3, 1) := by decide +kernel
theorem dX3_playsOfSound_49 : decode cX3_playsOfSound 49 = .ok (.ireturn, 1) := by decide +kernel
set_option maxRecDepth 20000 in
theorem ggX3_playsOfSound_X4_get : GoodIn wsX3_playsOfSound wsX4_get := goodIn_r _ [6, 7, 29] (by decide +kernel) (by decide +kernel)
set_option maxRecDepth 20000 in
theorem gX3_playsOfSound_X4_get : GoodIn wsX3_playsOfSound (wsV RX3 72 RX4 yX4_get wsX4_get) := goodIn_app (goodIn_of _ (by decide +kernel)) ggX3_playsOfSound_X4_get
theorem iX3_playsOfSound_0 : ∀ w ∈ u_ws RX0 TX0 6, w ∈ wsX3_playsOfSound := fun w h => List.mem_cons_of_mem _ (List.mem_append_left _ (List.mem_append_left _ (List.mem_append_right _ (h))))
theorem iX3_playsOfSound_3 : ∀ w ∈ u_ws RX3 TX3 15, w ∈ wsX3_playsOfSound := fun w h => List.mem_cons_of_mem _ (List.mem_append_left _ (List.mem_append_right _ (h)))
set_option maxHeartbeats 4000000 in
set_option maxRecDepth 100000 in
theorem w_X3_playsOfSound_L5 {p : Program} {l : Launch} {e : Env} {s : State} {m : MethodId} {args : Array Value} {below : List Frame} {meth : Method} {c : Code} {E : EE} {g : GG} {ad : Nat → Nat} (hg : gwf g) (X : CallFix p m c cX3_playsOfSound 5 s args wsX3_playsOfSound RX3) (K : Kn E s) (hr : meth.sig.returnType = (some .int)) (hlk : meth.locks = false) {Q : Int → Mm → Prop} : ∀ (n : Nat) (o0 : Nat) (x1 : Int) (o2 : Nat) (x3 : Int) (x4 : Int) (M : Mm) (H : Heap) (locs : List Loc) (ls : Array Slot), gk g o0 = 3 → gk g o2 = 0 → Rw E g ad M s.heap H locs → lv_has ls 5 [(0, .ref (ad o0)), (1, cI x1), (2, .ref (ad o2)), (3, cI x3), (4, cI x4)] → p_X3_playsOfSound_L5 g n o0 x1 o2 x3 x4 M Q → W p l e rmX3_playsOfSound s m args below meth c H locs 0 0 (MQ below (QI E g ad Q) args s 0 0 (Rg g ad)) (F0 m 5 ls []) := by
  intro n
  induction n with
  | zero =>
    intro o0 x1 o2 x3 x4 M H locs ls k_o0 k_o2 w hl h
    exact absurd h (by unfold p_X3_playsOfSound_L5; exact id)
  | succ n ih =>
    intro o0 x1 o2 x3 x4 M H locs ls k_o0 k_o2 w hl h
    unfold p_X3_playsOfSound_L5 at h
    refine lv_iload X.1 X.2.1 dX3_playsOfSound_5 (lv_at hl 4 rfl) ?_
    refine lv_aload_n X.1 X.2.1 dX3_playsOfSound_7 rfl (lv_at hl 2 rfl) ?_
    refine r_getiN (N := 6) (T := TX0) (kz := 5) X K w iX3_playsOfSound_0 k_o2 rfl (by decide) 5 (by decide) rfl rfl rfl (List.mem_of_getElem? (i := 7) rfl) dX3_playsOfSound_8 ?_
    obtain ⟨i0, i1, h1, h2⟩ := h
    refine r_icmp_ge (tgt := 48) X i0 i1 dX3_playsOfSound_11 (by decide) (fun cc => ?_) (fun cc => ?_)
    · have h := h1 cc
      refine lv_iload_n X.1 X.2.1 dX3_playsOfSound_48 rfl (lv_at hl 3 rfl) ?_
      exact r_ireturn X hr hlk K w h dX3_playsOfSound_49
    · have h := h2 cc
      refine lv_aload_n X.1 X.2.1 dX3_playsOfSound_14 rfl (lv_at hl 2 rfl) ?_
      refine r_getrN (N := 6) (T := TX0) X K w iX3_playsOfSound_0 k_o2 rfl (by decide) 3 (by decide) rfl rfl (List.mem_of_getElem? (i := 4) rfl) dX3_playsOfSound_15 ?_
      have k1 : gk g (o2 + 5) = 4 := gch hg k_o2 (by decide) 3 (by decide) rfl rfl
      refine lv_iload X.1 X.2.1 dX3_playsOfSound_18 (lv_at hl 4 rfl) ?_
      refine q_i (x_V (As := [cI x4]) (rest := []) X K w (c_X4_get hg k1 h) (cwV 1 X.2.2.2.2 gX3_playsOfSound_X4_get rfl rfl rfl (by decide +kernel) ⟨Nat.le_of_ble_eq_true rfl, Nat.le_of_ble_eq_true rfl⟩) k1 (by decide) rfl rfl hl rfl (Nat.le_of_ble_eq_true rfl) dX3_playsOfSound_20 ⟨Nat.le_of_ble_eq_true rfl, Nat.le_of_ble_eq_true rfl⟩) w (fun r3 M2 H locs h w => ?_)
      refine lv_iload_n X.1 X.2.1 dX3_playsOfSound_23 rfl (lv_at hl 1 rfl) ?_
      obtain ⟨i0, i1, h1, h2⟩ := h
      refine r_icmp_ne (tgt := 42) X i0 i1 dX3_playsOfSound_24 (by decide) (fun cc => ?_) (fun cc => ?_)
      · have h := h1 cc
        refine r_iinc (lv' := [(4, cI (x4 + 1)), (0, .ref (ad o0)), (1, cI x1), (2, .ref (ad o2)), (3, cI x3)]) X hl (k := 4) rfl (by decide) dX3_playsOfSound_42 rfl (fun ls hl => ?_)
        refine lv_goto (tgt := 5) X.1 X.2.1 dX3_playsOfSound_45 (by decide) ?_
        exact ih o0 x1 o2 x3 (x4 + 1) M2 _ _ _ k_o0 k_o2 w (lv_sub hl [1, 2, 3, 4, 0] rfl) h
      · have h := h2 cc
        refine lv_aload_n X.1 X.2.1 dX3_playsOfSound_27 rfl (lv_at hl 0 rfl) ?_
        refine r_getr (N := 15) (T := TX3) X K w iX3_playsOfSound_3 k_o0 rfl (by decide) 8 (by decide) rfl rfl (List.mem_of_getElem? (i := 1) rfl) dX3_playsOfSound_28 ?_
        have k4 : gk g (o0 + 17) = 4 := gch hg k_o0 (by decide) 8 (by decide) rfl rfl
        refine lv_iload X.1 X.2.1 dX3_playsOfSound_31 (lv_at hl 4 rfl) ?_
        refine q_i (x_V (As := [cI x4]) (rest := []) X K w (c_X4_get hg k4 h) (cwV 1 X.2.2.2.2 gX3_playsOfSound_X4_get rfl rfl rfl (by decide +kernel) ⟨Nat.le_of_ble_eq_true rfl, Nat.le_of_ble_eq_true rfl⟩) k4 (by decide) rfl rfl hl rfl (Nat.le_of_ble_eq_true rfl) dX3_playsOfSound_33 ⟨Nat.le_of_ble_eq_true rfl, Nat.le_of_ble_eq_true rfl⟩) w (fun r6 M5 H locs h w => ?_)
        obtain ⟨i0, h1, h2⟩ := h
        refine r_if_ne (tgt := 42) X i0 dX3_playsOfSound_36 (by decide) (fun cc => ?_) (fun cc => ?_)
        · have h := h1 cc
          refine r_iinc (lv' := [(4, cI (x4 + 1)), (0, .ref (ad o0)), (1, cI x1), (2, .ref (ad o2)), (3, cI x3)]) X hl (k := 4) rfl (by decide) dX3_playsOfSound_42 rfl (fun ls hl => ?_)
          refine lv_goto (tgt := 5) X.1 X.2.1 dX3_playsOfSound_45 (by decide) ?_
          exact ih o0 x1 o2 x3 (x4 + 1) M5 _ _ _ k_o0 k_o2 w (lv_sub hl [1, 2, 3, 4, 0] rfl) h
        · have h := h2 cc
          refine r_iinc (lv' := [(3, cI (x3 + 1)), (0, .ref (ad o0)), (1, cI x1), (2, .ref (ad o2)), (4, cI x4)]) X hl (k := 3) rfl (by decide) dX3_playsOfSound_39 rfl (fun ls hl => ?_)
          refine r_iinc (lv' := [(4, cI (x4 + 1)), (3, cI (x3 + 1)), (0, .ref (ad o0)), (1, cI x1), (2, .ref (ad o2))]) X hl (k := 4) rfl (by decide) dX3_playsOfSound_42 rfl (fun ls hl => ?_)
          refine lv_goto (tgt := 5) X.1 X.2.1 dX3_playsOfSound_45 (by decide) ?_
          exact ih o0 x1 o2 (x3 + 1) (x4 + 1) M5 _ _ _ k_o0 k_o2 w (lv_sub hl [2, 3, 4, 1, 0] rfl) h
set_option maxHeartbeats 4000000 in
set_option maxRecDepth 100000 in
theorem c_X3_playsOfSound {E : EE} {l : Launch} {g : GG} {ad : Nat → Nat} (hg : gwf g) {o0 : Nat} {x1 : Int} {o2 : Nat} {M : Mm} {Q : Int → Mm → Prop} (k_o0 : gk g o0 = 3) (k_o2 : gk g o2 = 0) (h : p_X3_playsOfSound g o0 x1 o2 M Q) : Ct E l yX3_playsOfSound wsX3_playsOfSound rmX3_playsOfSound g ad [.ref (ad o0), cI x1, .ref (ad o2)] M (QI E g ad Q) := by
  refine ent (cc := cX3_playsOfSound) (maxL := 5) (ret := (some .int)) (own := RX3) (by decide +kernel) rfl rfl (Nat.le_of_ble_eq_true rfl) ?_
  intro p e s m below meth c ls X hr hlk K w hl
  have hl : lv_has ls 5 [(0, .ref (ad o0)), (1, cI x1), (2, .ref (ad o2))] := hl
  unfold p_X3_playsOfSound at h
  refine r_iconst X dX3_playsOfSound_0 ?_
  refine lv_istore_n (lv' := [(3, cI 0), (0, .ref (ad o0)), (1, cI x1), (2, .ref (ad o2))]) X.1 X.2.1 dX3_playsOfSound_1 rfl hl (by decide) rfl (fun ls hl => ?_)
  refine r_iconst X dX3_playsOfSound_2 ?_
  refine lv_istore (lv' := [(4, cI 0), (3, cI 0), (0, .ref (ad o0)), (1, cI x1), (2, .ref (ad o2))]) X.1 X.2.1 dX3_playsOfSound_3 hl (by decide) rfl (fun ls hl => ?_)
  obtain ⟨n7, h⟩ := h
  exact w_X3_playsOfSound_L5 hg X K hr hlk n7 o0 x1 o2 0 0 M _ _ _ k_o0 k_o2 w (lv_sub hl [2, 3, 4, 1, 0] rfl) h
theorem dX3_missedCue_0 : decode cX3_missedCue 0 = .ok (.iconst 0, 1) := by decide +kernel
theorem dX3_missedCue_1 : decode cX3_missedCue 1 = .ok (.istore_n 3, 1) := by decide +kernel
theorem dX3_missedCue_2 : decode cX3_missedCue 2 = .ok (.iconst 0, 1) := by decide +kernel
theorem dX3_missedCue_3 : decode cX3_missedCue 3 = .ok (.istore 4, 2) := by decide +kernel
theorem dX3_missedCue_5 : decode cX3_missedCue 5 = .ok (.iload 4, 2) := by decide +kernel
theorem dX3_missedCue_7 : decode cX3_missedCue 7 = .ok (.iload_n 2, 1) := by decide +kernel
theorem dX3_missedCue_8 : decode cX3_missedCue 8 = .ok (.if_icmp .ge 32, 3) := by decide +kernel
theorem dX3_missedCue_11 : decode cX3_missedCue 11 = .ok (.aload_n 0, 1) := by decide +kernel
theorem dX3_missedCue_12 : decode cX3_missedCue 12 = .ok (.getfield 41, 3) := by decide +kernel
theorem dX3_missedCue_15 : decode cX3_missedCue 15 = .ok (.iload 4, 2) := by decide +kernel
theorem dX3_missedCue_17 : decode cX3_missedCue 17 = .ok (.invokevirtual 72, 3) := by decide +kernel
theorem dX3_missedCue_20 : decode cX3_missedCue 20 = .ok (.ifCond .eq 14, 3) := by decide +kernel
theorem dX3_missedCue_23 : decode cX3_missedCue 23 = .ok (.iload_n 3, 1) := by decide +kernel
theorem dX3_missedCue_24 : decode cX3_missedCue 24 = .ok (.iload_n 1, 1) := by decide +kernel
theorem dX3_missedCue_25 : decode cX3_missedCue 25 = .ok (.if_icmp .ne 6, 3) := by decide +kernel
theorem dX3_missedCue_28 : decode cX3_missedCue 28 = .ok (.iload 4, 2) := by decide +kernel
theorem dX3_missedCue_30 : decode cX3_missedCue 30 = .ok (.ireturn, 1) := by decide +kernel
theorem dX3_missedCue_31 : decode cX3_missedCue 31 = .ok (.iinc 3 1, 3) := by decide +kernel
theorem dX3_missedCue_34 : decode cX3_missedCue 34 = .ok (.iinc 4 1, 3) := by decide +kernel
theorem dX3_missedCue_37 : decode cX3_missedCue 37 = .ok (.goto (-32), 3) := by decide +kernel
theorem dX3_missedCue_40 : decode cX3_missedCue 40 = .ok (.bipush (-5), 2) := by decide +kernel
theorem dX3_missedCue_42 : decode cX3_missedCue 42 = .ok (.ireturn, 1) := by decide +kernel
set_option maxRecDepth 20000 in
theorem ggX3_missedCue_X4_get : GoodIn wsX3_missedCue wsX4_get := goodIn_r _ [6, 7, 23] (by decide +kernel) (by decide +kernel)
set_option maxRecDepth 20000 in
theorem gX3_missedCue_X4_get : GoodIn wsX3_missedCue (wsV RX3 72 RX4 yX4_get wsX4_get) := goodIn_app (goodIn_of _ (by decide +kernel)) ggX3_missedCue_X4_get
theorem iX3_missedCue_3 : ∀ w ∈ u_ws RX3 TX3 15, w ∈ wsX3_missedCue := fun w h => List.mem_cons_of_mem _ (List.mem_append_left _ (List.mem_append_right _ (h)))
set_option maxHeartbeats 4000000 in
set_option maxRecDepth 100000 in
theorem w_X3_missedCue_L5 {p : Program} {l : Launch} {e : Env} {s : State} {m : MethodId} {args : Array Value} {below : List Frame} {meth : Method} {c : Code} {E : EE} {g : GG} {ad : Nat → Nat} (hg : gwf g) (X : CallFix p m c cX3_missedCue 5 s args wsX3_missedCue RX3) (K : Kn E s) (hr : meth.sig.returnType = (some .int)) (hlk : meth.locks = false) {Q : Int → Mm → Prop} : ∀ (n : Nat) (o0 : Nat) (x1 : Int) (x2 : Int) (x3 : Int) (x4 : Int) (M : Mm) (H : Heap) (locs : List Loc) (ls : Array Slot), gk g o0 = 3 → Rw E g ad M s.heap H locs → lv_has ls 5 [(0, .ref (ad o0)), (1, cI x1), (2, cI x2), (3, cI x3), (4, cI x4)] → p_X3_missedCue_L5 g n o0 x1 x2 x3 x4 M Q → W p l e rmX3_missedCue s m args below meth c H locs 0 0 (MQ below (QI E g ad Q) args s 0 0 (Rg g ad)) (F0 m 5 ls []) := by
  intro n
  induction n with
  | zero =>
    intro o0 x1 x2 x3 x4 M H locs ls k_o0 w hl h
    exact absurd h (by unfold p_X3_missedCue_L5; exact id)
  | succ n ih =>
    intro o0 x1 x2 x3 x4 M H locs ls k_o0 w hl h
    unfold p_X3_missedCue_L5 at h
    refine lv_iload X.1 X.2.1 dX3_missedCue_5 (lv_at hl 4 rfl) ?_
    refine lv_iload_n X.1 X.2.1 dX3_missedCue_7 rfl (lv_at hl 2 rfl) ?_
    obtain ⟨i0, i1, h1, h2⟩ := h
    refine r_icmp_ge (tgt := 40) X i0 i1 dX3_missedCue_8 (by decide) (fun cc => ?_) (fun cc => ?_)
    · have h := h1 cc
      refine r_bipush X dX3_missedCue_40 (by decide +kernel) ?_
      exact r_ireturn X hr hlk K w h dX3_missedCue_42
    · have h := h2 cc
      refine lv_aload_n X.1 X.2.1 dX3_missedCue_11 rfl (lv_at hl 0 rfl) ?_
      refine r_getr (N := 15) (T := TX3) X K w iX3_missedCue_3 k_o0 rfl (by decide) 8 (by decide) rfl rfl (List.mem_of_getElem? (i := 1) rfl) dX3_missedCue_12 ?_
      have k1 : gk g (o0 + 17) = 4 := gch hg k_o0 (by decide) 8 (by decide) rfl rfl
      refine lv_iload X.1 X.2.1 dX3_missedCue_15 (lv_at hl 4 rfl) ?_
      refine q_i (x_V (As := [cI x4]) (rest := []) X K w (c_X4_get hg k1 h) (cwV 1 X.2.2.2.2 gX3_missedCue_X4_get rfl rfl rfl (by decide +kernel) ⟨Nat.le_of_ble_eq_true rfl, Nat.le_of_ble_eq_true rfl⟩) k1 (by decide) rfl rfl hl rfl (Nat.le_of_ble_eq_true rfl) dX3_missedCue_17 ⟨Nat.le_of_ble_eq_true rfl, Nat.le_of_ble_eq_true rfl⟩) w (fun r3 M2 H locs h w => ?_)
      obtain ⟨i0, h1, h2⟩ := h
      refine r_if_eq (tgt := 34) X i0 dX3_missedCue_20 (by decide) (fun cc => ?_) (fun cc => ?_)
      · have h := h1 cc
        refine r_iinc (lv' := [(4, cI (x4 + 1)), (0, .ref (ad o0)), (1, cI x1), (2, cI x2), (3, cI x3)]) X hl (k := 4) rfl (by decide) dX3_missedCue_34 rfl (fun ls hl => ?_)
        refine lv_goto (tgt := 5) X.1 X.2.1 dX3_missedCue_37 (by decide) ?_
        exact ih o0 x1 x2 x3 (x4 + 1) M2 _ _ _ k_o0 w (lv_sub hl [1, 2, 3, 4, 0] rfl) h
      · have h := h2 cc
        refine lv_iload_n X.1 X.2.1 dX3_missedCue_23 rfl (lv_at hl 3 rfl) ?_
        refine lv_iload_n X.1 X.2.1 dX3_missedCue_24 rfl (lv_at hl 1 rfl) ?_
        obtain ⟨i0, i1, h1, h2⟩ := h
        refine r_icmp_ne (tgt := 31) X i0 i1 dX3_missedCue_25 (by decide) (fun cc => ?_) (fun cc => ?_)
        · have h := h1 cc
          refine r_iinc (lv' := [(3, cI (x3 + 1)), (0, .ref (ad o0)), (1, cI x1), (2, cI x2), (4, cI x4)]) X hl (k := 3) rfl (by decide) dX3_missedCue_31 rfl (fun ls hl => ?_)
          refine r_iinc (lv' := [(4, cI (x4 + 1)), (3, cI (x3 + 1)), (0, .ref (ad o0)), (1, cI x1), (2, cI x2)]) X hl (k := 4) rfl (by decide) dX3_missedCue_34 rfl (fun ls hl => ?_)
          refine lv_goto (tgt := 5) X.1 X.2.1 dX3_missedCue_37 (by decide) ?_
          exact ih o0 x1 x2 (x3 + 1) (x4 + 1) M2 _ _ _ k_o0 w (lv_sub hl [2, 3, 4, 1, 0] rfl) h
        · have h := h2 cc
          refine lv_iload X.1 X.2.1 dX3_missedCue_28 (lv_at hl 4 rfl) ?_
          exact r_ireturn X hr hlk K w h dX3_missedCue_30
set_option maxHeartbeats 4000000 in
set_option maxRecDepth 100000 in
theorem c_X3_missedCue {E : EE} {l : Launch} {g : GG} {ad : Nat → Nat} (hg : gwf g) {o0 : Nat} {x1 : Int} {x2 : Int} {M : Mm} {Q : Int → Mm → Prop} (k_o0 : gk g o0 = 3) (h : p_X3_missedCue g o0 x1 x2 M Q) : Ct E l yX3_missedCue wsX3_missedCue rmX3_missedCue g ad [.ref (ad o0), cI x1, cI x2] M (QI E g ad Q) := by
  refine ent (cc := cX3_missedCue) (maxL := 5) (ret := (some .int)) (own := RX3) (by decide +kernel) rfl rfl (Nat.le_of_ble_eq_true rfl) ?_
  intro p e s m below meth c ls X hr hlk K w hl
  have hl : lv_has ls 5 [(0, .ref (ad o0)), (1, cI x1), (2, cI x2)] := hl
  unfold p_X3_missedCue at h
  refine r_iconst X dX3_missedCue_0 ?_
  refine lv_istore_n (lv' := [(3, cI 0), (0, .ref (ad o0)), (1, cI x1), (2, cI x2)]) X.1 X.2.1 dX3_missedCue_1 rfl hl (by decide) rfl (fun ls hl => ?_)
  refine r_iconst X dX3_missedCue_2 ?_
  refine lv_istore (lv' := [(4, cI 0), (3, cI 0), (0, .ref (ad o0)), (1, cI x1), (2, cI x2)]) X.1 X.2.1 dX3_missedCue_3 hl (by decide) rfl (fun ls hl => ?_)
  obtain ⟨n4, h⟩ := h
  exact w_X3_missedCue_L5 hg X K hr hlk n4 o0 x1 x2 0 0 M _ _ _ k_o0 w (lv_sub hl [2, 3, 4, 1, 0] rfl) h
theorem dX4_sum_0 : decode cX4_sum 0 = .ok (.iconst 0, 1) := by decide +kernel
theorem dX4_sum_1 : decode cX4_sum 1 = .ok (.istore_n 1, 1) := by decide +kernel
theorem dX4_sum_2 : decode cX4_sum 2 = .ok (.iconst 0, 1) := by decide +kernel
theorem dX4_sum_3 : decode cX4_sum 3 = .ok (.istore_n 2, 1) := by decide +kernel
theorem dX4_sum_4 : decode cX4_sum 4 = .ok (.iload_n 2, 1) := by decide +kernel
theorem dX4_sum_5 : decode cX4_sum 5 = .ok (.aload_n 0, 1) := by decide +kernel
theorem dX4_sum_6 : decode cX4_sum 6 = .ok (.getfield 13, 3) := by decide +kernel
theorem dX4_sum_9 : decode cX4_sum 9 = .ok (.arraylength, 1) := by decide +kernel
theorem dX4_sum_10 : decode cX4_sum 10 = .ok (.if_icmp .ge 18, 3) := by decide +kernel
theorem dX4_sum_13 : decode cX4_sum 13 = .ok (.iload_n 1, 1) := by decide +kernel
theorem dX4_sum_14 : decode cX4_sum 14 = .ok (.aload_n 0, 1) := by decide +kernel
theorem dX4_sum_15 : decode cX4_sum 15 = .ok (.getfield 13, 3) := by decide +kernel
theorem dX4_sum_18 : decode cX4_sum 18 = .ok (.iload_n 2, 1) := by decide +kernel
theorem dX4_sum_19 : decode cX4_sum 19 = .ok (.iaload, 1) := by decide +kernel
theorem dX4_sum_20 : decode cX4_sum 20 = .ok (.iadd, 1) := by decide +kernel
theorem dX4_sum_21 : decode cX4_sum 21 = .ok (.istore_n 1, 1) := by decide +kernel
theorem dX4_sum_22 : decode cX4_sum 22 = .ok (.iinc 2 1, 3) := by decide +kernel
theorem dX4_sum_25 : decode cX4_sum 25 = .ok (.goto (-21), 3) := by decide +kernel
theorem dX4_sum_28 : decode cX4_sum 28 = .ok (.iload_n 1, 1) := by decide +kernel
theorem dX4_sum_29 : decode cX4_sum 29 = .ok (.ireturn, 1) := by decide +kernel
theorem iX4_sum_4 : ∀ w ∈ u_ws RX4 TX4 1, w ∈ wsX4_sum := fun w h => List.mem_cons_of_mem _ (List.mem_append_right _ (h))
set_option maxHeartbeats 4000000 in
set_option maxRecDepth 100000 in
theorem w_X4_sum_L4 {p : Program} {l : Launch} {e : Env} {s : State} {m : MethodId} {args : Array Value} {below : List Frame} {meth : Method} {c : Code} {E : EE} {g : GG} {ad : Nat → Nat} (hg : gwf g) (X : CallFix p m c cX4_sum 3 s args wsX4_sum RX4) (K : Kn E s) (hr : meth.sig.returnType = (some .int)) (hlk : meth.locks = false) {Q : Int → Mm → Prop} : ∀ (n : Nat) (o0 : Nat) (x1 : Int) (x2 : Int) (M : Mm) (H : Heap) (locs : List Loc) (ls : Array Slot), gk g o0 = 4 → Rw E g ad M s.heap H locs → lv_has ls 3 [(0, .ref (ad o0)), (1, cI x1), (2, cI x2)] → p_X4_sum_L4 g n o0 x1 x2 M Q → W p l e rmX4_sum s m args below meth c H locs 0 0 (MQ below (QI E g ad Q) args s 0 0 (Rg g ad)) (F0 m 4 ls []) := by
  intro n
  induction n with
  | zero =>
    intro o0 x1 x2 M H locs ls k_o0 w hl h
    exact absurd h (by unfold p_X4_sum_L4; exact id)
  | succ n ih =>
    intro o0 x1 x2 M H locs ls k_o0 w hl h
    unfold p_X4_sum_L4 at h
    refine lv_iload_n X.1 X.2.1 dX4_sum_4 rfl (lv_at hl 2 rfl) ?_
    refine lv_aload_n X.1 X.2.1 dX4_sum_5 rfl (lv_at hl 0 rfl) ?_
    refine r_getr (N := 1) (T := TX4) X K w iX4_sum_4 k_o0 rfl (by decide) 0 (by decide) rfl rfl (List.mem_of_getElem? (i := 1) rfl) dX4_sum_6 ?_
    have k1 : gk g (o0 + 1) = 9 := gch hg k_o0 (by decide) 0 (by decide) rfl rfl
    refine r_alen X K w k1 dX4_sum_9 ?_
    obtain ⟨i0, h1, h2⟩ := h
    refine r_icmp_ge (tgt := 28) X i0 (inR_n (hg.2 _)) dX4_sum_10 (by decide) (fun cc => ?_) (fun cc => ?_)
    · have h := h1 cc
      refine lv_iload_n X.1 X.2.1 dX4_sum_28 rfl (lv_at hl 1 rfl) ?_
      exact r_ireturn X hr hlk K w h dX4_sum_29
    · have h := h2 cc
      refine lv_iload_n X.1 X.2.1 dX4_sum_13 rfl (lv_at hl 1 rfl) ?_
      refine lv_aload_n X.1 X.2.1 dX4_sum_14 rfl (lv_at hl 0 rfl) ?_
      refine r_getr (N := 1) (T := TX4) X K w iX4_sum_4 k_o0 rfl (by decide) 0 (by decide) rfl rfl (List.mem_of_getElem? (i := 1) rfl) dX4_sum_15 ?_
      have k2 : gk g (o0 + 1) = 9 := gch hg k_o0 (by decide) 0 (by decide) rfl rfl
      refine lv_iload_n X.1 X.2.1 dX4_sum_18 rfl (lv_at hl 2 rfl) ?_
      obtain ⟨b0, b1, h⟩ := h
      refine r_iald X K w hg k2 b0 b1 dX4_sum_19 ?_
      refine r_iadd X dX4_sum_20 ?_
      refine lv_istore_n (lv' := [(1, cI (x1 + (M (o0 + 1) x2))), (0, .ref (ad o0)), (2, cI x2)]) X.1 X.2.1 dX4_sum_21 rfl hl (by decide) rfl (fun ls hl => ?_)
      refine r_iinc (lv' := [(2, cI (x2 + 1)), (1, cI (x1 + (M (o0 + 1) x2))), (0, .ref (ad o0))]) X hl (k := 2) rfl (by decide) dX4_sum_22 rfl (fun ls hl => ?_)
      refine lv_goto (tgt := 4) X.1 X.2.1 dX4_sum_25 (by decide) ?_
      exact ih o0 (x1 + (M (o0 + 1) x2)) (x2 + 1) M _ _ _ k_o0 w (lv_sub hl [2, 1, 0] rfl) h
set_option maxHeartbeats 4000000 in
set_option maxRecDepth 100000 in
theorem c_X4_sum {E : EE} {l : Launch} {g : GG} {ad : Nat → Nat} (hg : gwf g) {o0 : Nat} {M : Mm} {Q : Int → Mm → Prop} (k_o0 : gk g o0 = 4) (h : p_X4_sum g o0 M Q) : Ct E l yX4_sum wsX4_sum rmX4_sum g ad [.ref (ad o0)] M (QI E g ad Q) := by
  refine ent (cc := cX4_sum) (maxL := 3) (ret := (some .int)) (own := RX4) (by decide +kernel) rfl rfl (Nat.le_of_ble_eq_true rfl) ?_
  intro p e s m below meth c ls X hr hlk K w hl
  have hl : lv_has ls 3 [(0, .ref (ad o0))] := hl
  unfold p_X4_sum at h
  refine r_iconst X dX4_sum_0 ?_
  refine lv_istore_n (lv' := [(1, cI 0), (0, .ref (ad o0))]) X.1 X.2.1 dX4_sum_1 rfl hl (by decide) rfl (fun ls hl => ?_)
  refine r_iconst X dX4_sum_2 ?_
  refine lv_istore_n (lv' := [(2, cI 0), (1, cI 0), (0, .ref (ad o0))]) X.1 X.2.1 dX4_sum_3 rfl hl (by decide) rfl (fun ls hl => ?_)
  obtain ⟨n3, h⟩ := h
  exact w_X4_sum_L4 hg X K hr hlk n3 o0 0 0 M _ _ _ k_o0 w (lv_sub hl [2, 1, 0] rfl) h
theorem dX5_soundRow_0 : decode cX5_soundRow 0 = .ok (.iload_n 1, 1) := by decide +kernel
theorem dX5_soundRow_1 : decode cX5_soundRow 1 = .ok (.lookupswitch 37 #[(0, 27), (1, 32)], 27) := by decide +kernel
theorem dX5_soundRow_28 : decode cX5_soundRow 28 = .ok (.aload_n 0, 1) := by decide +kernel
theorem dX5_soundRow_29 : decode cX5_soundRow 29 = .ok (.getfield 14, 3) := by decide +kernel
theorem dX5_soundRow_32 : decode cX5_soundRow 32 = .ok (.areturn, 1) := by decide +kernel
theorem dX5_soundRow_33 : decode cX5_soundRow 33 = .ok (.aload_n 0, 1) := by decide +kernel
theorem dX5_soundRow_34 : decode cX5_soundRow 34 = .ok (.getfield 20, 3) := by decide +kernel
theorem dX5_soundRow_37 : decode cX5_soundRow 37 = .ok (.areturn, 1) := by decide +kernel
theorem dX5_soundRow_38 : decode cX5_soundRow 38 = .ok (.aload_n 0, 1) := by decide +kernel
theorem dX5_soundRow_39 : decode cX5_soundRow 39 = .ok (.getfield 23, 3) := by decide +kernel
theorem dX5_soundRow_42 : decode cX5_soundRow 42 = .ok (.areturn, 1) := by decide +kernel
theorem iX5_soundRow_5 : ∀ w ∈ u_ws RX5 TX5 11, w ∈ wsX5_soundRow := fun w h => List.mem_cons_of_mem _ (List.mem_append_right _ (h))
set_option maxHeartbeats 4000000 in
set_option maxRecDepth 100000 in
theorem c_X5_soundRow {E : EE} {l : Launch} {g : GG} {ad : Nat → Nat} (hg : gwf g) {o0 : Nat} {x1 : Int} {M : Mm} {Q : Nat → Mm → Prop} (k_o0 : gk g o0 = 5) (h : p_X5_soundRow g o0 x1 M Q) : Ct E l yX5_soundRow wsX5_soundRow rmX5_soundRow g ad [.ref (ad o0), cI x1] M (QR E g ad 4 Q) := by
  refine ent (cc := cX5_soundRow) (maxL := 2) (ret := (some (.object "LentSounds$Row"))) (own := RX5) (by decide +kernel) rfl rfl (Nat.le_of_ble_eq_true rfl) ?_
  intro p e s m below meth c ls X hr hlk K w hl
  have hl : lv_has ls 2 [(0, .ref (ad o0)), (1, cI x1)] := hl
  unfold p_X5_soundRow at h
  refine lv_iload_n X.1 X.2.1 dX5_soundRow_0 rfl (lv_at hl 1 rfl) ?_
  obtain ⟨i0, h⟩ := h
  obtain ⟨h1, h⟩ := h
  by_cases cs0 : x1 = 0
  · have h := h1 cs0
    refine r_lookup (tgt := 28) X i0 dX5_soundRow_1 (by decide) (by rw [cs0]) (by decide) ?_
    refine lv_aload_n X.1 X.2.1 dX5_soundRow_28 rfl (lv_at hl 0 rfl) ?_
    refine r_getr (N := 11) (T := TX5) X K w iX5_soundRow_5 k_o0 rfl (by decide) 0 (by decide) rfl rfl (List.mem_of_getElem? (i := 1) rfl) dX5_soundRow_29 ?_
    have k1 : gk g (o0 + 1) = 4 := gch hg k_o0 (by decide) 0 (by decide) rfl rfl
    exact r_areturn X hr (Or.inl ⟨_, rfl⟩) hlk K w k1 h dX5_soundRow_32
  obtain ⟨h1, h⟩ := h
  by_cases cs1 : x1 = 1
  · have h := h1 cs1
    refine r_lookup (tgt := 33) X i0 dX5_soundRow_1 (by decide) (by rw [cs1]) (by decide) ?_
    refine lv_aload_n X.1 X.2.1 dX5_soundRow_33 rfl (lv_at hl 0 rfl) ?_
    refine r_getr (N := 11) (T := TX5) X K w iX5_soundRow_5 k_o0 rfl (by decide) 1 (by decide) rfl rfl (List.mem_of_getElem? (i := 2) rfl) dX5_soundRow_34 ?_
    have k2 : gk g (o0 + 3) = 4 := gch hg k_o0 (by decide) 1 (by decide) rfl rfl
    exact r_areturn X hr (Or.inl ⟨_, rfl⟩) hlk K w k2 h dX5_soundRow_37
  replace h := h ⟨cs0, cs1⟩
  refine r_lookup (off := 37) (tgt := 38) X i0 dX5_soundRow_1 (by decide) (by simp [Op.lookupswitch.offset, cs0, Ne.symm cs0, cs1, Ne.symm cs1]) (by decide) ?_
  refine lv_aload_n X.1 X.2.1 dX5_soundRow_38 rfl (lv_at hl 0 rfl) ?_
  refine r_getr (N := 11) (T := TX5) X K w iX5_soundRow_5 k_o0 rfl (by decide) 2 (by decide) rfl rfl (List.mem_of_getElem? (i := 3) rfl) dX5_soundRow_39 ?_
  have k3 : gk g (o0 + 5) = 4 := gch hg k_o0 (by decide) 2 (by decide) rfl rfl
  exact r_areturn X hr (Or.inl ⟨_, rfl⟩) hlk K w k3 h dX5_soundRow_42
theorem dX6_append_0 : decode cX6_append 0 = .ok (.aload_n 0, 1) := by decide +kernel
theorem dX6_append_1 : decode cX6_append 1 = .ok (.getfield 20, 3) := by decide +kernel
theorem dX6_append_4 : decode cX6_append 4 = .ok (.bipush 60, 2) := by decide +kernel
theorem dX6_append_6 : decode cX6_append 6 = .ok (.if_icmp .ge 25, 3) := by decide +kernel
theorem dX6_append_9 : decode cX6_append 9 = .ok (.aload_n 0, 1) := by decide +kernel
theorem dX6_append_10 : decode cX6_append 10 = .ok (.getfield 14, 3) := by decide +kernel
theorem dX6_append_13 : decode cX6_append 13 = .ok (.aload_n 0, 1) := by decide +kernel
theorem dX6_append_14 : decode cX6_append 14 = .ok (.getfield 20, 3) := by decide +kernel
theorem dX6_append_17 : decode cX6_append 17 = .ok (.iload_n 1, 1) := by decide +kernel
theorem dX6_append_18 : decode cX6_append 18 = .ok (.invokevirtual 24, 3) := by decide +kernel
theorem dX6_append_21 : decode cX6_append 21 = .ok (.aload_n 0, 1) := by decide +kernel
theorem dX6_append_22 : decode cX6_append 22 = .ok (.dup, 1) := by decide +kernel
theorem dX6_append_23 : decode cX6_append 23 = .ok (.getfield 20, 3) := by decide +kernel
theorem dX6_append_26 : decode cX6_append 26 = .ok (.iconst 1, 1) := by decide +kernel
theorem dX6_append_27 : decode cX6_append 27 = .ok (.iadd, 1) := by decide +kernel
theorem dX6_append_28 : decode cX6_append 28 = .ok (.putfield 20, 3) := by decide +kernel
theorem dX6_append_31 : decode cX6_append 31 = .ok (.return_, 1) := by decide +kernel
set_option maxRecDepth 20000 in
theorem ggX6_append_X4_put : GoodIn wsX6_append wsX4_put := goodIn_r _ [7, 8, 11] (by decide +kernel) (by decide +kernel)
set_option maxRecDepth 20000 in
theorem gX6_append_X4_put : GoodIn wsX6_append (wsV RX6 24 RX4 yX4_put wsX4_put) := goodIn_app (goodIn_of _ (by decide +kernel)) ggX6_append_X4_put
theorem iX6_append_6 : ∀ w ∈ u_ws RX6 TX6 2, w ∈ wsX6_append := fun w h => List.mem_cons_of_mem _ (List.mem_append_left _ (List.mem_append_right _ (h)))
set_option maxHeartbeats 4000000 in
set_option maxRecDepth 100000 in
theorem c_X6_append {E : EE} {l : Launch} {g : GG} {ad : Nat → Nat} (hg : gwf g) {o0 : Nat} {x1 : Int} {M : Mm} {Q : Mm → Prop} (k_o0 : gk g o0 = 6) (h : p_X6_append g o0 x1 M Q) : Ct E l yX6_append wsX6_append rmX6_append g ad [.ref (ad o0), cI x1] M (QV E g ad Q) := by
  refine ent (cc := cX6_append) (maxL := 2) (ret := none) (own := RX6) (by decide +kernel) rfl rfl (Nat.le_of_ble_eq_true rfl) ?_
  intro p e s m below meth c ls X hr hlk K w hl
  have hl : lv_has ls 2 [(0, .ref (ad o0)), (1, cI x1)] := hl
  unfold p_X6_append at h
  refine lv_aload_n X.1 X.2.1 dX6_append_0 rfl (lv_at hl 0 rfl) ?_
  refine r_geti (N := 2) (T := TX6) (kz := 1) X K w iX6_append_6 k_o0 rfl (by decide) 1 (by decide) rfl rfl rfl (List.mem_of_getElem? (i := 1) rfl) dX6_append_1 ?_
  refine r_bipush X dX6_append_4 (by decide +kernel) ?_
  obtain ⟨i0, h1, h2⟩ := h
  refine r_icmp_ge (tgt := 31) X i0 ⟨by decide, by decide⟩ dX6_append_6 (by decide) (fun cc => ?_) (fun cc => ?_)
  · have h := h1 cc
    exact r_return X hr hlk K w h dX6_append_31
  · have h := h2 cc
    refine lv_aload_n X.1 X.2.1 dX6_append_9 rfl (lv_at hl 0 rfl) ?_
    refine r_getr (N := 2) (T := TX6) X K w iX6_append_6 k_o0 rfl (by decide) 0 (by decide) rfl rfl (List.mem_of_getElem? (i := 2) rfl) dX6_append_10 ?_
    have k1 : gk g (o0 + 1) = 4 := gch hg k_o0 (by decide) 0 (by decide) rfl rfl
    refine lv_aload_n X.1 X.2.1 dX6_append_13 rfl (lv_at hl 0 rfl) ?_
    refine r_geti (N := 2) (T := TX6) (kz := 1) X K w iX6_append_6 k_o0 rfl (by decide) 1 (by decide) rfl rfl rfl (List.mem_of_getElem? (i := 1) rfl) dX6_append_14 ?_
    refine lv_iload_n X.1 X.2.1 dX6_append_17 rfl (lv_at hl 1 rfl) ?_
    refine q_v (x_V (As := [cI (M o0 1), cI x1]) (rest := []) X K w (c_X4_put hg k1 h) (cwV 2 X.2.2.2.2 gX6_append_X4_put rfl rfl rfl (by decide +kernel) ⟨Nat.le_of_ble_eq_true rfl, Nat.le_of_ble_eq_true rfl⟩) k1 (by decide) rfl rfl hl rfl (Nat.le_of_ble_eq_true rfl) dX6_append_18 ⟨Nat.le_of_ble_eq_true rfl, Nat.le_of_ble_eq_true rfl⟩) w (fun M2 H locs h w => ?_)
    refine lv_aload_n X.1 X.2.1 dX6_append_21 rfl (lv_at hl 0 rfl) ?_
    refine lv_dup X.1 X.2.1 dX6_append_22 rfl ?_
    refine r_geti (N := 2) (T := TX6) (kz := 1) X K w iX6_append_6 k_o0 rfl (by decide) 1 (by decide) rfl rfl rfl (List.mem_of_getElem? (i := 1) rfl) dX6_append_23 ?_
    refine r_iconst X dX6_append_26 ?_
    refine r_iadd X dX6_append_27 ?_
    refine r_puti (N := 2) (T := TX6) (kz := 1) (ty := .int) X K w iX6_append_6 tyX6 tyX6_ok nmX6 k_o0 rfl (by decide) 1 (by decide) rfl rfl rfl rfl (by decide +kernel) rfl rfl (List.mem_of_getElem? (i := 1) rfl) dX6_append_28 (fun M3 H locs e w => ?_)
    replace h := h M3 e
    exact r_return X hr hlk K w h dX6_append_31
theorem dX7_isSoundValue_0 : decode cX7_isSoundValue 0 = .ok (.iload_n 0, 1) := by decide +kernel
theorem dX7_isSoundValue_1 : decode cX7_isSoundValue 1 = .ok (.tableswitch 49 0 2 #[27, 33, 41], 27) := by decide +kernel
theorem dX7_isSoundValue_28 : decode cX7_isSoundValue 28 = .ok (.iload_n 1, 1) := by decide +kernel
theorem dX7_isSoundValue_29 : decode cX7_isSoundValue 29 = .ok (.iconst 5, 1) := by decide +kernel
theorem dX7_isSoundValue_30 : decode cX7_isSoundValue 30 = .ok (.invokestatic 51, 3) := by decide +kernel
theorem dX7_isSoundValue_33 : decode cX7_isSoundValue 33 = .ok (.ireturn, 1) := by decide +kernel
theorem dX7_isSoundValue_34 : decode cX7_isSoundValue 34 = .ok (.iload_n 1, 1) := by decide +kernel
theorem dX7_isSoundValue_35 : decode cX7_isSoundValue 35 = .ok (.iconst 0, 1) := by decide +kernel
theorem dX7_isSoundValue_36 : decode cX7_isSoundValue 36 = .ok (.bipush 30, 2) := by decide +kernel
theorem dX7_isSoundValue_38 : decode cX7_isSoundValue 38 = .ok (.invokestatic 76, 3) := by decide +kernel
theorem dX7_isSoundValue_41 : decode cX7_isSoundValue 41 = .ok (.ireturn, 1) := by decide +kernel
theorem dX7_isSoundValue_42 : decode cX7_isSoundValue 42 = .ok (.iload_n 1, 1) := by decide +kernel
theorem dX7_isSoundValue_43 : decode cX7_isSoundValue 43 = .ok (.iconst 1, 1) := by decide +kernel
theorem dX7_isSoundValue_44 : decode cX7_isSoundValue 44 = .ok (.bipush 9, 2) := by decide +kernel
theorem dX7_isSoundValue_46 : decode cX7_isSoundValue 46 = .ok (.invokestatic 76, 3) := by decide +kernel
theorem dX7_isSoundValue_49 : decode cX7_isSoundValue 49 = .ok (.ireturn, 1) := by decide +kernel
theorem dX7_isSoundValue_50 : decode cX7_isSoundValue 50 = .ok (.iconst 0, 1) := by decide +kernel
theorem dX7_isSoundValue_51 : decode cX7_isSoundValue 51 = .ok (.ireturn, 1) := by decide +kernel
set_option maxRecDepth 20000 in
theorem ggX7_isSoundValue_X7_isBelow : GoodIn wsX7_isSoundValue wsX7_isBelow := goodIn_r _ [4] (by decide +kernel) (by decide +kernel)
set_option maxRecDepth 20000 in
theorem gX7_isSoundValue_X7_isBelow : GoodIn wsX7_isSoundValue (va_wsS RX7 51 yX7_isBelow wsX7_isBelow) := goodIn_app (goodIn_of _ (by decide +kernel)) ggX7_isSoundValue_X7_isBelow
set_option maxRecDepth 20000 in
theorem ggX7_isSoundValue_X7_isWithin : GoodIn wsX7_isSoundValue wsX7_isWithin := goodIn_r _ [7] (by decide +kernel) (by decide +kernel)
set_option maxRecDepth 20000 in
theorem gX7_isSoundValue_X7_isWithin : GoodIn wsX7_isSoundValue (va_wsS RX7 76 yX7_isWithin wsX7_isWithin) := goodIn_app (goodIn_of _ (by decide +kernel)) ggX7_isSoundValue_X7_isWithin
set_option maxHeartbeats 4000000 in
set_option maxRecDepth 100000 in
theorem c_X7_isSoundValue {E : EE} {l : Launch} {g : GG} {ad : Nat → Nat} (hg : gwf g) {x0 : Int} {x1 : Int} {M : Mm} {Q : Int → Mm → Prop} (h : p_X7_isSoundValue g x0 x1 M Q) : Ct E l yX7_isSoundValue wsX7_isSoundValue rmX7_isSoundValue g ad [cI x0, cI x1] M (QI E g ad Q) := by
  refine ent (cc := cX7_isSoundValue) (maxL := 2) (ret := (some .boolean)) (own := RX7) (by decide +kernel) rfl rfl (Nat.le_of_ble_eq_true rfl) ?_
  intro p e s m below meth c ls X hr hlk K w hl
  have hl : lv_has ls 2 [(0, cI x0), (1, cI x1)] := hl
  unfold p_X7_isSoundValue at h
  refine lv_iload_n X.1 X.2.1 dX7_isSoundValue_0 rfl (lv_at hl 0 rfl) ?_
  obtain ⟨i0, h⟩ := h
  obtain ⟨h1, h⟩ := h
  by_cases cs0 : x0 = 0
  · have h := h1 cs0
    refine r_tabIn (tgt := 28) X i0 dX7_isSoundValue_1 0 cs0 (by decide) (by decide) rfl (by decide) ?_
    refine lv_iload_n X.1 X.2.1 dX7_isSoundValue_28 rfl (lv_at hl 1 rfl) ?_
    refine r_iconst X dX7_isSoundValue_29 ?_
    refine q_i (x_S (As := [cI x1, cI 5]) (rest := []) X K w (c_X7_isBelow hg h) (va_cwS 2 X.2.2.2.2 gX7_isSoundValue_X7_isBelow rfl rfl rfl (by decide +kernel) ⟨Nat.le_of_ble_eq_true rfl, Nat.le_of_ble_eq_true rfl⟩) rfl hl rfl (Nat.le_of_ble_eq_true rfl) dX7_isSoundValue_30 ⟨Nat.le_of_ble_eq_true rfl, Nat.le_of_ble_eq_true rfl⟩) w (fun r2 M1 H locs h w => ?_)
    exact r_zreturn X hr hlk K w (nz h.1) h.2 dX7_isSoundValue_33
  obtain ⟨h1, h⟩ := h
  by_cases cs1 : x0 = 1
  · have h := h1 cs1
    refine r_tabIn (tgt := 34) X i0 dX7_isSoundValue_1 1 cs1 (by decide) (by decide) rfl (by decide) ?_
    refine lv_iload_n X.1 X.2.1 dX7_isSoundValue_34 rfl (lv_at hl 1 rfl) ?_
    refine r_iconst X dX7_isSoundValue_35 ?_
    refine r_bipush X dX7_isSoundValue_36 (by decide +kernel) ?_
    refine q_i (x_S (As := [cI x1, cI 0, cI 30]) (rest := []) X K w (c_X7_isWithin hg h) (va_cwS 3 X.2.2.2.2 gX7_isSoundValue_X7_isWithin rfl rfl rfl (by decide +kernel) ⟨Nat.le_of_ble_eq_true rfl, Nat.le_of_ble_eq_true rfl⟩) rfl hl rfl (Nat.le_of_ble_eq_true rfl) dX7_isSoundValue_38 ⟨Nat.le_of_ble_eq_true rfl, Nat.le_of_ble_eq_true rfl⟩) w (fun r4 M3 H locs h w => ?_)
    exact r_zreturn X hr hlk K w (nz h.1) h.2 dX7_isSoundValue_41
  obtain ⟨h1, h⟩ := h
  by_cases cs2 : x0 = 2
  · have h := h1 cs2
    refine r_tabIn (tgt := 42) X i0 dX7_isSoundValue_1 2 cs2 (by decide) (by decide) rfl (by decide) ?_
    refine lv_iload_n X.1 X.2.1 dX7_isSoundValue_42 rfl (lv_at hl 1 rfl) ?_
    refine r_iconst X dX7_isSoundValue_43 ?_
    refine r_bipush X dX7_isSoundValue_44 (by decide +kernel) ?_
    refine q_i (x_S (As := [cI x1, cI 1, cI 9]) (rest := []) X K w (c_X7_isWithin hg h) (va_cwS 3 X.2.2.2.2 gX7_isSoundValue_X7_isWithin rfl rfl rfl (by decide +kernel) ⟨Nat.le_of_ble_eq_true rfl, Nat.le_of_ble_eq_true rfl⟩) rfl hl rfl (Nat.le_of_ble_eq_true rfl) dX7_isSoundValue_46 ⟨Nat.le_of_ble_eq_true rfl, Nat.le_of_ble_eq_true rfl⟩) w (fun r6 M5 H locs h w => ?_)
    exact r_zreturn X hr hlk K w (nz h.1) h.2 dX7_isSoundValue_49
  have co : x0 < 0 ∨ 2 < x0 := by omega
  replace h := h co
  refine r_tabOut (tgt := 50) X i0 dX7_isSoundValue_1 co (by decide) ?_
  refine r_iconst X dX7_isSoundValue_50 ?_
  exact r_zreturn X hr hlk K w (by decide +kernel) h dX7_isSoundValue_51
