/-! contracts of the methods, by gen.py: X8_firstTick, X8_greatestEnd, X8_missedOf, X8_lentTo, X8_scene, X8_missed, X8_ifHands, X8_cleanTakes, X8_wouldMiss, X8_allCharges, X8_count -/
theorem dX8_firstTick_0 : decode cX8_firstTick 0 = .ok (.iconst 0, 1) := by decide +kernel
theorem dX8_firstTick_1 : decode cX8_firstTick 1 = .ok (.istore_n 2, 1) := by decide +kernel
theorem dX8_firstTick_2 : decode cX8_firstTick 2 = .ok (.iload_n 2, 1) := by decide +kernel
theorem dX8_firstTick_3 : decode cX8_firstTick 3 = .ok (.aload_n 0, 1) := by decide +kernel
theorem dX8_firstTick_4 : decode cX8_firstTick 4 = .ok (.getfield 7, 3) := by decide +kernel
theorem dX8_firstTick_7 : decode cX8_firstTick 7 = .ok (.bipush 36, 2) := by decide +kernel
theorem dX8_firstTick_9 : decode cX8_firstTick 9 = .ok (.iaload, 1) := by decide +kernel
theorem dX8_firstTick_10 : decode cX8_firstTick 10 = .ok (.if_icmp .ge 26, 3) := by decide +kernel
theorem dX8_firstTick_13 : decode cX8_firstTick 13 = .ok (.aload_n 0, 1) := by decide +kernel
theorem dX8_firstTick_14 : decode cX8_firstTick 14 = .ok (.iload_n 2, 1) := by decide +kernel
theorem dX8_firstTick_15 : decode cX8_firstTick 15 = .ok (.iconst 0, 1) := by decide +kernel
theorem dX8_firstTick_16 : decode cX8_firstTick 16 = .ok (.invokevirtual 77, 3) := by decide +kernel
theorem dX8_firstTick_19 : decode cX8_firstTick 19 = .ok (.iload_n 1, 1) := by decide +kernel
theorem dX8_firstTick_20 : decode cX8_firstTick 20 = .ok (.if_icmp .ne 10, 3) := by decide +kernel
theorem dX8_firstTick_23 : decode cX8_firstTick 23 = .ok (.aload_n 0, 1) := by decide +kernel
theorem dX8_firstTick_24 : decode cX8_firstTick 24 = .ok (.iload_n 2, 1) := by decide +kernel
theorem dX8_firstTick_25 : decode cX8_firstTick 25 = .ok (.iconst 1, 1) := by decide +kernel
theorem dX8_firstTick_26 : decode cX8_firstTick 26 = .ok (.invokevirtual 77, 3) := by decide +kernel
theorem dX8_firstTick_29 : decode cX8_firstTick 29 = .ok (.ireturn, 1) := by decide +kernel
theorem dX8_firstTick_30 : decode cX8_firstTick 30 = .ok (.iinc 2 1, 3) := by decide +kernel
theorem dX8_firstTick_33 : decode cX8_firstTick 33 = .ok (.goto (-31), 3) := by decide +kernel
theorem dX8_firstTick_36 : decode cX8_firstTick 36 = .ok (.bipush (-5), 2) := by decide +kernel
theorem dX8_firstTick_38 : decode cX8_firstTick 38 = .ok (.ireturn, 1) := by decide +kernel
set_option maxRecDepth 20000 in
theorem ggX8_firstTick_X8_of : GoodIn wsX8_firstTick wsX8_of := goodIn_r _ [6, 1, 7, 8, 9, 10, 11, 12, 13, 14, 15, 16, 17, 18, 19, 20, 21, 22, 23, 24, 25, 26, 27, 28, 29, 30, 31] (by decide +kernel) (by decide +kernel)
set_option maxRecDepth 20000 in
theorem gX8_firstTick_X8_of : GoodIn wsX8_firstTick (wsV RX8 77 RX8 yX8_of wsX8_of) := goodIn_app (goodIn_of _ (by decide +kernel)) ggX8_firstTick_X8_of
theorem iX8_firstTick_8 : ∀ w ∈ u_ws RX8 TX8 25, w ∈ wsX8_firstTick := fun w h => List.mem_cons_of_mem _ (List.mem_append_right _ (h))
set_option maxHeartbeats 4000000 in
set_option maxRecDepth 100000 in
theorem w_X8_firstTick_L2 {p : Program} {l : Launch} {e : Env} {s : State} {m : MethodId} {args : Array Value} {below : List Frame} {meth : Method} {c : Code} {E : EE} {g : GG} {ad : Nat → Nat} (hg : gwf g) (X : CallFix p m c cX8_firstTick 3 s args wsX8_firstTick RX8) (K : Kn E s) (hr : meth.sig.returnType = (some .int)) (hlk : meth.locks = false) {Q : Int → Mm → Prop} : ∀ (n : Nat) (o0 : Nat) (x1 : Int) (x2 : Int) (M : Mm) (H : Heap) (locs : List Loc) (ls : Array Slot), gk g o0 = 8 → Rw E g ad M s.heap H locs → lv_has ls 3 [(0, .ref (ad o0)), (1, cI x1), (2, cI x2)] → p_X8_firstTick_L2 g n o0 x1 x2 M Q → W p l e rmX8_firstTick s m args below meth c H locs 0 0 (MQ below (QI E g ad Q) args s 0 0 (Rg g ad)) (F0 m 2 ls []) := by
  intro n
  induction n with
  | zero =>
    intro o0 x1 x2 M H locs ls k_o0 w hl h
    exact absurd h (by unfold p_X8_firstTick_L2; exact id)
  | succ n ih =>
    intro o0 x1 x2 M H locs ls k_o0 w hl h
    unfold p_X8_firstTick_L2 at h
    refine lv_iload_n X.1 X.2.1 dX8_firstTick_2 rfl (lv_at hl 2 rfl) ?_
    refine lv_aload_n X.1 X.2.1 dX8_firstTick_3 rfl (lv_at hl 0 rfl) ?_
    refine r_getr (N := 25) (T := TX8) X K w iX8_firstTick_8 k_o0 rfl (by decide) 0 (by decide) rfl rfl (List.mem_of_getElem? (i := 1) rfl) dX8_firstTick_4 ?_
    have k1 : gk g (o0 + 1) = 9 := gch hg k_o0 (by decide) 0 (by decide) rfl rfl
    refine r_bipush X dX8_firstTick_7 (by decide +kernel) ?_
    obtain ⟨b1, h⟩ := h
    refine r_iald X K w hg k1 (by decide) b1 dX8_firstTick_9 ?_
    obtain ⟨i0, i1, h1, h2⟩ := h
    refine r_icmp_ge (tgt := 36) X i0 i1 dX8_firstTick_10 (by decide) (fun cc => ?_) (fun cc => ?_)
    · have h := h1 cc
      refine r_bipush X dX8_firstTick_36 (by decide +kernel) ?_
      exact r_ireturn X hr hlk K w h dX8_firstTick_38
    · have h := h2 cc
      refine lv_aload_n X.1 X.2.1 dX8_firstTick_13 rfl (lv_at hl 0 rfl) ?_
      refine lv_iload_n X.1 X.2.1 dX8_firstTick_14 rfl (lv_at hl 2 rfl) ?_
      refine r_iconst X dX8_firstTick_15 ?_
      refine q_i (x_V (As := [cI x2, cI 0]) (rest := []) X K w (c_X8_of hg k_o0 h) (cwV 2 X.2.2.2.2 gX8_firstTick_X8_of rfl rfl rfl (by decide +kernel) ⟨Nat.le_of_ble_eq_true rfl, Nat.le_of_ble_eq_true rfl⟩) k_o0 (by decide) rfl rfl hl rfl (Nat.le_of_ble_eq_true rfl) dX8_firstTick_16 ⟨Nat.le_of_ble_eq_true rfl, Nat.le_of_ble_eq_true rfl⟩) w (fun r3 M2 H locs h w => ?_)
      refine lv_iload_n X.1 X.2.1 dX8_firstTick_19 rfl (lv_at hl 1 rfl) ?_
      obtain ⟨i0, i1, h1, h2⟩ := h
      refine r_icmp_ne (tgt := 30) X i0 i1 dX8_firstTick_20 (by decide) (fun cc => ?_) (fun cc => ?_)
      · have h := h1 cc
        refine r_iinc (lv' := [(2, cI (x2 + 1)), (0, .ref (ad o0)), (1, cI x1)]) X hl (k := 2) rfl (by decide) dX8_firstTick_30 rfl (fun ls hl => ?_)
        refine lv_goto (tgt := 2) X.1 X.2.1 dX8_firstTick_33 (by decide) ?_
        exact ih o0 x1 (x2 + 1) M2 _ _ _ k_o0 w (lv_sub hl [1, 2, 0] rfl) h
      · have h := h2 cc
        refine lv_aload_n X.1 X.2.1 dX8_firstTick_23 rfl (lv_at hl 0 rfl) ?_
        refine lv_iload_n X.1 X.2.1 dX8_firstTick_24 rfl (lv_at hl 2 rfl) ?_
        refine r_iconst X dX8_firstTick_25 ?_
        refine q_i (x_V (As := [cI x2, cI 1]) (rest := []) X K w (c_X8_of hg k_o0 h) (cwV 2 X.2.2.2.2 gX8_firstTick_X8_of rfl rfl rfl (by decide +kernel) ⟨Nat.le_of_ble_eq_true rfl, Nat.le_of_ble_eq_true rfl⟩) k_o0 (by decide) rfl rfl hl rfl (Nat.le_of_ble_eq_true rfl) dX8_firstTick_26 ⟨Nat.le_of_ble_eq_true rfl, Nat.le_of_ble_eq_true rfl⟩) w (fun r5 M4 H locs h w => ?_)
        exact r_ireturn X hr hlk K w h dX8_firstTick_29
set_option maxHeartbeats 4000000 in
set_option maxRecDepth 100000 in
theorem c_X8_firstTick {E : EE} {l : Launch} {g : GG} {ad : Nat → Nat} (hg : gwf g) {o0 : Nat} {x1 : Int} {M : Mm} {Q : Int → Mm → Prop} (k_o0 : gk g o0 = 8) (h : p_X8_firstTick g o0 x1 M Q) : Ct E l yX8_firstTick wsX8_firstTick rmX8_firstTick g ad [.ref (ad o0), cI x1] M (QI E g ad Q) := by
  refine ent (cc := cX8_firstTick) (maxL := 3) (ret := (some .int)) (own := RX8) (by decide +kernel) rfl rfl (Nat.le_of_ble_eq_true rfl) ?_
  intro p e s m below meth c ls X hr hlk K w hl
  have hl : lv_has ls 3 [(0, .ref (ad o0)), (1, cI x1)] := hl
  unfold p_X8_firstTick at h
  refine r_iconst X dX8_firstTick_0 ?_
  refine lv_istore_n (lv' := [(2, cI 0), (0, .ref (ad o0)), (1, cI x1)]) X.1 X.2.1 dX8_firstTick_1 rfl hl (by decide) rfl (fun ls hl => ?_)
  obtain ⟨n6, h⟩ := h
  exact w_X8_firstTick_L2 hg X K hr hlk n6 o0 x1 0 M _ _ _ k_o0 w (lv_sub hl [1, 2, 0] rfl) h
theorem dX8_greatestEnd_0 : decode cX8_greatestEnd 0 = .ok (.bipush (-5), 2) := by decide +kernel
theorem dX8_greatestEnd_2 : decode cX8_greatestEnd 2 = .ok (.istore_n 2, 1) := by decide +kernel
theorem dX8_greatestEnd_3 : decode cX8_greatestEnd 3 = .ok (.iconst 0, 1) := by decide +kernel
theorem dX8_greatestEnd_4 : decode cX8_greatestEnd 4 = .ok (.istore_n 3, 1) := by decide +kernel
theorem dX8_greatestEnd_5 : decode cX8_greatestEnd 5 = .ok (.iload_n 3, 1) := by decide +kernel
theorem dX8_greatestEnd_6 : decode cX8_greatestEnd 6 = .ok (.aload_n 0, 1) := by decide +kernel
theorem dX8_greatestEnd_7 : decode cX8_greatestEnd 7 = .ok (.getfield 7, 3) := by decide +kernel
theorem dX8_greatestEnd_10 : decode cX8_greatestEnd 10 = .ok (.bipush 36, 2) := by decide +kernel
theorem dX8_greatestEnd_12 : decode cX8_greatestEnd 12 = .ok (.iaload, 1) := by decide +kernel
theorem dX8_greatestEnd_13 : decode cX8_greatestEnd 13 = .ok (.if_icmp .ge 52, 3) := by decide +kernel
theorem dX8_greatestEnd_16 : decode cX8_greatestEnd 16 = .ok (.aload_n 0, 1) := by decide +kernel
theorem dX8_greatestEnd_17 : decode cX8_greatestEnd 17 = .ok (.iload_n 3, 1) := by decide +kernel
theorem dX8_greatestEnd_18 : decode cX8_greatestEnd 18 = .ok (.iconst 0, 1) := by decide +kernel
theorem dX8_greatestEnd_19 : decode cX8_greatestEnd 19 = .ok (.invokevirtual 77, 3) := by decide +kernel
theorem dX8_greatestEnd_22 : decode cX8_greatestEnd 22 = .ok (.iload_n 1, 1) := by decide +kernel
theorem dX8_greatestEnd_23 : decode cX8_greatestEnd 23 = .ok (.if_icmp .ne 19, 3) := by decide +kernel
theorem dX8_greatestEnd_26 : decode cX8_greatestEnd 26 = .ok (.aload_n 0, 1) := by decide +kernel
theorem dX8_greatestEnd_27 : decode cX8_greatestEnd 27 = .ok (.iload_n 3, 1) := by decide +kernel
theorem dX8_greatestEnd_28 : decode cX8_greatestEnd 28 = .ok (.iconst 1, 1) := by decide +kernel
theorem dX8_greatestEnd_29 : decode cX8_greatestEnd 29 = .ok (.invokevirtual 77, 3) := by decide +kernel
theorem dX8_greatestEnd_32 : decode cX8_greatestEnd 32 = .ok (.aload_n 0, 1) := by decide +kernel
theorem dX8_greatestEnd_33 : decode cX8_greatestEnd 33 = .ok (.iload_n 3, 1) := by decide +kernel
theorem dX8_greatestEnd_34 : decode cX8_greatestEnd 34 = .ok (.iconst 3, 1) := by decide +kernel
theorem dX8_greatestEnd_35 : decode cX8_greatestEnd 35 = .ok (.invokevirtual 77, 3) := by decide +kernel
theorem dX8_greatestEnd_38 : decode cX8_greatestEnd 38 = .ok (.iadd, 1) := by decide +kernel
theorem dX8_greatestEnd_39 : decode cX8_greatestEnd 39 = .ok (.goto 5, 3) := by decide +kernel
theorem dX8_greatestEnd_42 : decode cX8_greatestEnd 42 = .ok (.bipush (-5), 2) := by decide +kernel
theorem dX8_greatestEnd_44 : decode cX8_greatestEnd 44 = .ok (.istore 4, 2) := by decide +kernel
theorem dX8_greatestEnd_46 : decode cX8_greatestEnd 46 = .ok (.iload 4, 2) := by decide +kernel
theorem dX8_greatestEnd_48 : decode cX8_greatestEnd 48 = .ok (.iload_n 2, 1) := by decide +kernel
theorem dX8_greatestEnd_49 : decode cX8_greatestEnd 49 = .ok (.if_icmp .le 8, 3) := by decide +kernel
theorem dX8_greatestEnd_52 : decode cX8_greatestEnd 52 = .ok (.iload 4, 2) := by decide +kernel
theorem dX8_greatestEnd_54 : decode cX8_greatestEnd 54 = .ok (.goto 4, 3) := by decide +kernel
theorem dX8_greatestEnd_57 : decode cX8_greatestEnd 57 = .ok (.iload_n 2, 1) := by decide +kernel
theorem dX8_greatestEnd_58 : decode cX8_greatestEnd 58 = .ok (.istore_n 2, 1) := by decide +kernel
theorem dX8_greatestEnd_59 : decode cX8_greatestEnd 59 = .ok (.iinc 3 1, 3) := by decide +kernel
theorem dX8_greatestEnd_62 : decode cX8_greatestEnd 62 = .ok (.goto (-57), 3) := by decide +kernel
theorem dX8_greatestEnd_65 : decode cX8_greatestEnd 65 = .ok (.iload_n 2, 1) := by decide +kernel
theorem dX8_greatestEnd_66 : decode cX8_greatestEnd 66 = .ok (.ireturn, 1) := by decide +kernel
set_option maxRecDepth 20000 in
theorem ggX8_greatestEnd_X8_of : GoodIn wsX8_greatestEnd wsX8_of := goodIn_r _ [6, 1, 7, 8, 9, 10, 11, 12, 13, 14, 15, 16, 17, 18, 19, 20, 21, 22, 23, 24, 25, 26, 27, 28, 29, 30, 31] (by decide +kernel) (by decide +kernel)
set_option maxRecDepth 20000 in
theorem gX8_greatestEnd_X8_of : GoodIn wsX8_greatestEnd (wsV RX8 77 RX8 yX8_of wsX8_of) := goodIn_app (goodIn_of _ (by decide +kernel)) ggX8_greatestEnd_X8_of
theorem iX8_greatestEnd_8 : ∀ w ∈ u_ws RX8 TX8 25, w ∈ wsX8_greatestEnd := fun w h => List.mem_cons_of_mem _ (List.mem_append_right _ (h))
set_option maxHeartbeats 4000000 in
set_option maxRecDepth 100000 in
theorem w_X8_greatestEnd_L5 {p : Program} {l : Launch} {e : Env} {s : State} {m : MethodId} {args : Array Value} {below : List Frame} {meth : Method} {c : Code} {E : EE} {g : GG} {ad : Nat → Nat} (hg : gwf g) (X : CallFix p m c cX8_greatestEnd 5 s args wsX8_greatestEnd RX8) (K : Kn E s) (hr : meth.sig.returnType = (some .int)) (hlk : meth.locks = false) {Q : Int → Mm → Prop} : ∀ (n : Nat) (o0 : Nat) (x1 : Int) (x2 : Int) (x3 : Int) (M : Mm) (H : Heap) (locs : List Loc) (ls : Array Slot), gk g o0 = 8 → Rw E g ad M s.heap H locs → lv_has ls 5 [(0, .ref (ad o0)), (1, cI x1), (2, cI x2), (3, cI x3)] → p_X8_greatestEnd_L5 g n o0 x1 x2 x3 M Q → W p l e rmX8_greatestEnd s m args below meth c H locs 0 0 (MQ below (QI E g ad Q) args s 0 0 (Rg g ad)) (F0 m 5 ls []) := by
  intro n
  induction n with
  | zero =>
    intro o0 x1 x2 x3 M H locs ls k_o0 w hl h
    exact absurd h (by unfold p_X8_greatestEnd_L5; exact id)
  | succ n ih =>
    intro o0 x1 x2 x3 M H locs ls k_o0 w hl h
    unfold p_X8_greatestEnd_L5 at h
    refine lv_iload_n X.1 X.2.1 dX8_greatestEnd_5 rfl (lv_at hl 3 rfl) ?_
    refine lv_aload_n X.1 X.2.1 dX8_greatestEnd_6 rfl (lv_at hl 0 rfl) ?_
    refine r_getr (N := 25) (T := TX8) X K w iX8_greatestEnd_8 k_o0 rfl (by decide) 0 (by decide) rfl rfl (List.mem_of_getElem? (i := 1) rfl) dX8_greatestEnd_7 ?_
    have k1 : gk g (o0 + 1) = 9 := gch hg k_o0 (by decide) 0 (by decide) rfl rfl
    refine r_bipush X dX8_greatestEnd_10 (by decide +kernel) ?_
    obtain ⟨b1, h⟩ := h
    refine r_iald X K w hg k1 (by decide) b1 dX8_greatestEnd_12 ?_
    obtain ⟨i0, i1, h1, h2⟩ := h
    refine r_icmp_ge (tgt := 65) X i0 i1 dX8_greatestEnd_13 (by decide) (fun cc => ?_) (fun cc => ?_)
    · have h := h1 cc
      refine lv_iload_n X.1 X.2.1 dX8_greatestEnd_65 rfl (lv_at hl 2 rfl) ?_
      exact r_ireturn X hr hlk K w h dX8_greatestEnd_66
    · have h := h2 cc
      refine lv_aload_n X.1 X.2.1 dX8_greatestEnd_16 rfl (lv_at hl 0 rfl) ?_
      refine lv_iload_n X.1 X.2.1 dX8_greatestEnd_17 rfl (lv_at hl 3 rfl) ?_
      refine r_iconst X dX8_greatestEnd_18 ?_
      refine q_i (x_V (As := [cI x3, cI 0]) (rest := []) X K w (c_X8_of hg k_o0 h) (cwV 2 X.2.2.2.2 gX8_greatestEnd_X8_of rfl rfl rfl (by decide +kernel) ⟨Nat.le_of_ble_eq_true rfl, Nat.le_of_ble_eq_true rfl⟩) k_o0 (by decide) rfl rfl hl rfl (Nat.le_of_ble_eq_true rfl) dX8_greatestEnd_19 ⟨Nat.le_of_ble_eq_true rfl, Nat.le_of_ble_eq_true rfl⟩) w (fun r3 M2 H locs h w => ?_)
      refine lv_iload_n X.1 X.2.1 dX8_greatestEnd_22 rfl (lv_at hl 1 rfl) ?_
      obtain ⟨i0, i1, h1, h2⟩ := h
      refine r_icmp_ne (tgt := 42) X i0 i1 dX8_greatestEnd_23 (by decide) (fun cc => ?_) (fun cc => ?_)
      · have h := h1 cc
        refine r_bipush X dX8_greatestEnd_42 (by decide +kernel) ?_
        refine lv_istore (lv' := [(4, cI (-5)), (0, .ref (ad o0)), (1, cI x1), (2, cI x2), (3, cI x3)]) X.1 X.2.1 dX8_greatestEnd_44 hl (by decide) rfl (fun ls hl => ?_)
        refine lv_iload X.1 X.2.1 dX8_greatestEnd_46 (lv_at hl 0 rfl) ?_
        refine lv_iload_n X.1 X.2.1 dX8_greatestEnd_48 rfl (lv_at hl 3 rfl) ?_
        obtain ⟨i0, h1, h2⟩ := h
        refine r_icmp_le (tgt := 57) X ⟨by decide, by decide⟩ i0 dX8_greatestEnd_49 (by decide) (fun cc => ?_) (fun cc => ?_)
        · have h := h1 cc
          refine lv_iload_n X.1 X.2.1 dX8_greatestEnd_57 rfl (lv_at hl 3 rfl) ?_
          refine lv_istore_n (lv' := [(2, cI x2), (4, cI (-5)), (0, .ref (ad o0)), (1, cI x1), (3, cI x3)]) X.1 X.2.1 dX8_greatestEnd_58 rfl hl (by decide) rfl (fun ls hl => ?_)
          refine r_iinc (lv' := [(3, cI (x3 + 1)), (2, cI x2), (4, cI (-5)), (0, .ref (ad o0)), (1, cI x1)]) X hl (k := 4) rfl (by decide) dX8_greatestEnd_59 rfl (fun ls hl => ?_)
          refine lv_goto (tgt := 5) X.1 X.2.1 dX8_greatestEnd_62 (by decide) ?_
          exact ih o0 x1 x2 (x3 + 1) M2 _ _ _ k_o0 w (lv_sub hl [3, 4, 1, 0] rfl) h
        · have h := h2 cc
          refine lv_iload X.1 X.2.1 dX8_greatestEnd_52 (lv_at hl 0 rfl) ?_
          refine lv_goto (tgt := 58) X.1 X.2.1 dX8_greatestEnd_54 (by decide) ?_
          refine lv_istore_n (lv' := [(2, cI (-5)), (4, cI (-5)), (0, .ref (ad o0)), (1, cI x1), (3, cI x3)]) X.1 X.2.1 dX8_greatestEnd_58 rfl hl (by decide) rfl (fun ls hl => ?_)
          refine r_iinc (lv' := [(3, cI (x3 + 1)), (2, cI (-5)), (4, cI (-5)), (0, .ref (ad o0)), (1, cI x1)]) X hl (k := 4) rfl (by decide) dX8_greatestEnd_59 rfl (fun ls hl => ?_)
          refine lv_goto (tgt := 5) X.1 X.2.1 dX8_greatestEnd_62 (by decide) ?_
          exact ih o0 x1 (-5) (x3 + 1) M2 _ _ _ k_o0 w (lv_sub hl [3, 4, 1, 0] rfl) h
      · have h := h2 cc
        refine lv_aload_n X.1 X.2.1 dX8_greatestEnd_26 rfl (lv_at hl 0 rfl) ?_
        refine lv_iload_n X.1 X.2.1 dX8_greatestEnd_27 rfl (lv_at hl 3 rfl) ?_
        refine r_iconst X dX8_greatestEnd_28 ?_
        refine q_i (x_V (As := [cI x3, cI 1]) (rest := []) X K w (c_X8_of hg k_o0 h) (cwV 2 X.2.2.2.2 gX8_greatestEnd_X8_of rfl rfl rfl (by decide +kernel) ⟨Nat.le_of_ble_eq_true rfl, Nat.le_of_ble_eq_true rfl⟩) k_o0 (by decide) rfl rfl hl rfl (Nat.le_of_ble_eq_true rfl) dX8_greatestEnd_29 ⟨Nat.le_of_ble_eq_true rfl, Nat.le_of_ble_eq_true rfl⟩) w (fun r5 M4 H locs h w => ?_)
        refine lv_aload_n X.1 X.2.1 dX8_greatestEnd_32 rfl (lv_at hl 0 rfl) ?_
        refine lv_iload_n X.1 X.2.1 dX8_greatestEnd_33 rfl (lv_at hl 3 rfl) ?_
        refine r_iconst X dX8_greatestEnd_34 ?_
        refine q_i (x_V (As := [cI x3, cI 3]) (rest := [cI r5]) X K w (c_X8_of hg k_o0 h) (cwV 2 X.2.2.2.2 gX8_greatestEnd_X8_of rfl rfl rfl (by decide +kernel) ⟨Nat.le_of_ble_eq_true rfl, Nat.le_of_ble_eq_true rfl⟩) k_o0 (by decide) rfl rfl hl rfl (Nat.le_of_ble_eq_true rfl) dX8_greatestEnd_35 ⟨Nat.le_of_ble_eq_true rfl, Nat.le_of_ble_eq_true rfl⟩) w (fun r7 M6 H locs h w => ?_)
        refine r_iadd X dX8_greatestEnd_38 ?_
        refine lv_goto (tgt := 44) X.1 X.2.1 dX8_greatestEnd_39 (by decide) ?_
        refine lv_istore (lv' := [(4, cI (r5 + r7)), (0, .ref (ad o0)), (1, cI x1), (2, cI x2), (3, cI x3)]) X.1 X.2.1 dX8_greatestEnd_44 hl (by decide) rfl (fun ls hl => ?_)
        refine lv_iload X.1 X.2.1 dX8_greatestEnd_46 (lv_at hl 0 rfl) ?_
        refine lv_iload_n X.1 X.2.1 dX8_greatestEnd_48 rfl (lv_at hl 3 rfl) ?_
        obtain ⟨i0, i1, h1, h2⟩ := h
        refine r_icmp_le (tgt := 57) X i0 i1 dX8_greatestEnd_49 (by decide) (fun cc => ?_) (fun cc => ?_)
        · have h := h1 cc
          refine lv_iload_n X.1 X.2.1 dX8_greatestEnd_57 rfl (lv_at hl 3 rfl) ?_
          refine lv_istore_n (lv' := [(2, cI x2), (4, cI (r5 + r7)), (0, .ref (ad o0)), (1, cI x1), (3, cI x3)]) X.1 X.2.1 dX8_greatestEnd_58 rfl hl (by decide) rfl (fun ls hl => ?_)
          refine r_iinc (lv' := [(3, cI (x3 + 1)), (2, cI x2), (4, cI (r5 + r7)), (0, .ref (ad o0)), (1, cI x1)]) X hl (k := 4) rfl (by decide) dX8_greatestEnd_59 rfl (fun ls hl => ?_)
          refine lv_goto (tgt := 5) X.1 X.2.1 dX8_greatestEnd_62 (by decide) ?_
          exact ih o0 x1 x2 (x3 + 1) M6 _ _ _ k_o0 w (lv_sub hl [3, 4, 1, 0] rfl) h
        · have h := h2 cc
          refine lv_iload X.1 X.2.1 dX8_greatestEnd_52 (lv_at hl 0 rfl) ?_
          refine lv_goto (tgt := 58) X.1 X.2.1 dX8_greatestEnd_54 (by decide) ?_
          refine lv_istore_n (lv' := [(2, cI (r5 + r7)), (4, cI (r5 + r7)), (0, .ref (ad o0)), (1, cI x1), (3, cI x3)]) X.1 X.2.1 dX8_greatestEnd_58 rfl hl (by decide) rfl (fun ls hl => ?_)
          refine r_iinc (lv' := [(3, cI (x3 + 1)), (2, cI (r5 + r7)), (4, cI (r5 + r7)), (0, .ref (ad o0)), (1, cI x1)]) X hl (k := 4) rfl (by decide) dX8_greatestEnd_59 rfl (fun ls hl => ?_)
          refine lv_goto (tgt := 5) X.1 X.2.1 dX8_greatestEnd_62 (by decide) ?_
          exact ih o0 x1 (r5 + r7) (x3 + 1) M6 _ _ _ k_o0 w (lv_sub hl [3, 4, 1, 0] rfl) h
set_option maxHeartbeats 4000000 in
set_option maxRecDepth 100000 in
theorem c_X8_greatestEnd {E : EE} {l : Launch} {g : GG} {ad : Nat → Nat} (hg : gwf g) {o0 : Nat} {x1 : Int} {M : Mm} {Q : Int → Mm → Prop} (k_o0 : gk g o0 = 8) (h : p_X8_greatestEnd g o0 x1 M Q) : Ct E l yX8_greatestEnd wsX8_greatestEnd rmX8_greatestEnd g ad [.ref (ad o0), cI x1] M (QI E g ad Q) := by
  refine ent (cc := cX8_greatestEnd) (maxL := 5) (ret := (some .int)) (own := RX8) (by decide +kernel) rfl rfl (Nat.le_of_ble_eq_true rfl) ?_
  intro p e s m below meth c ls X hr hlk K w hl
  have hl : lv_has ls 5 [(0, .ref (ad o0)), (1, cI x1)] := hl
  unfold p_X8_greatestEnd at h
  refine r_bipush X dX8_greatestEnd_0 (by decide +kernel) ?_
  refine lv_istore_n (lv' := [(2, cI (-5)), (0, .ref (ad o0)), (1, cI x1)]) X.1 X.2.1 dX8_greatestEnd_2 rfl hl (by decide) rfl (fun ls hl => ?_)
  refine r_iconst X dX8_greatestEnd_3 ?_
  refine lv_istore_n (lv' := [(3, cI 0), (2, cI (-5)), (0, .ref (ad o0)), (1, cI x1)]) X.1 X.2.1 dX8_greatestEnd_4 rfl hl (by decide) rfl (fun ls hl => ?_)
  obtain ⟨n8, h⟩ := h
  exact w_X8_greatestEnd_L5 hg X K hr hlk n8 o0 x1 (-5) 0 M _ _ _ k_o0 w (lv_sub hl [2, 3, 1, 0] rfl) h
theorem dX8_missedOf_0 : decode cX8_missedOf 0 = .ok (.aload_n 0, 1) := by decide +kernel
theorem dX8_missedOf_1 : decode cX8_missedOf 1 = .ok (.invokevirtual 206, 3) := by decide +kernel
theorem dX8_missedOf_4 : decode cX8_missedOf 4 = .ok (.iconst 0, 1) := by decide +kernel
theorem dX8_missedOf_5 : decode cX8_missedOf 5 = .ok (.istore_n 2, 1) := by decide +kernel
theorem dX8_missedOf_6 : decode cX8_missedOf 6 = .ok (.iconst 0, 1) := by decide +kernel
theorem dX8_missedOf_7 : decode cX8_missedOf 7 = .ok (.istore_n 3, 1) := by decide +kernel
theorem dX8_missedOf_8 : decode cX8_missedOf 8 = .ok (.iload_n 3, 1) := by decide +kernel
theorem dX8_missedOf_9 : decode cX8_missedOf 9 = .ok (.aload_n 0, 1) := by decide +kernel
theorem dX8_missedOf_10 : decode cX8_missedOf 10 = .ok (.getfield 7, 3) := by decide +kernel
theorem dX8_missedOf_13 : decode cX8_missedOf 13 = .ok (.bipush 36, 2) := by decide +kernel
theorem dX8_missedOf_15 : decode cX8_missedOf 15 = .ok (.iaload, 1) := by decide +kernel
theorem dX8_missedOf_16 : decode cX8_missedOf 16 = .ok (.if_icmp .ge 36, 3) := by decide +kernel
theorem dX8_missedOf_19 : decode cX8_missedOf 19 = .ok (.iload_n 2, 1) := by decide +kernel
theorem dX8_missedOf_20 : decode cX8_missedOf 20 = .ok (.aload_n 0, 1) := by decide +kernel
theorem dX8_missedOf_21 : decode cX8_missedOf 21 = .ok (.iload_n 3, 1) := by decide +kernel
theorem dX8_missedOf_22 : decode cX8_missedOf 22 = .ok (.iconst 0, 1) := by decide +kernel
theorem dX8_missedOf_23 : decode cX8_missedOf 23 = .ok (.invokevirtual 77, 3) := by decide +kernel
theorem dX8_missedOf_26 : decode cX8_missedOf 26 = .ok (.iload_n 1, 1) := by decide +kernel
theorem dX8_missedOf_27 : decode cX8_missedOf 27 = .ok (.if_icmp .ne 16, 3) := by decide +kernel
theorem dX8_missedOf_30 : decode cX8_missedOf 30 = .ok (.aload_n 0, 1) := by decide +kernel
theorem dX8_missedOf_31 : decode cX8_missedOf 31 = .ok (.getfield 28, 3) := by decide +kernel
theorem dX8_missedOf_34 : decode cX8_missedOf 34 = .ok (.iload_n 3, 1) := by decide +kernel
theorem dX8_missedOf_35 : decode cX8_missedOf 35 = .ok (.iaload, 1) := by decide +kernel
theorem dX8_missedOf_36 : decode cX8_missedOf 36 = .ok (.ifCond .le 7, 3) := by decide +kernel
theorem dX8_missedOf_39 : decode cX8_missedOf 39 = .ok (.iconst 1, 1) := by decide +kernel
theorem dX8_missedOf_40 : decode cX8_missedOf 40 = .ok (.goto 4, 3) := by decide +kernel
theorem dX8_missedOf_43 : decode cX8_missedOf 43 = .ok (.iconst 0, 1) := by decide +kernel
theorem dX8_missedOf_44 : decode cX8_missedOf 44 = .ok (.iadd, 1) := by decide +kernel
theorem dX8_missedOf_45 : decode cX8_missedOf 45 = .ok (.istore_n 2, 1) := by decide +kernel
theorem dX8_missedOf_46 : decode cX8_missedOf 46 = .ok (.iinc 3 1, 3) := by decide +kernel
theorem dX8_missedOf_49 : decode cX8_missedOf 49 = .ok (.goto (-41), 3) := by decide +kernel
theorem dX8_missedOf_52 : decode cX8_missedOf 52 = .ok (.iload_n 2, 1) := by decide +kernel
theorem dX8_missedOf_53 : decode cX8_missedOf 53 = .ok (.ireturn, 1) := by decide +kernel
set_option maxRecDepth 20000 in
theorem ggX8_missedOf_X8_of : GoodIn wsX8_missedOf wsX8_of := goodIn_r _ [34, 1, 46, 47, 48, 49, 50, 51, 52, 53, 54, 55, 56, 57, 58, 59, 60, 61, 62, 63, 64, 65, 66, 67, 68, 69, 70] (by decide +kernel) (by decide +kernel)
set_option maxRecDepth 20000 in
theorem gX8_missedOf_X8_of : GoodIn wsX8_missedOf (wsV RX8 77 RX8 yX8_of wsX8_of) := goodIn_app (goodIn_of _ (by decide +kernel)) ggX8_missedOf_X8_of
set_option maxRecDepth 20000 in
theorem ggX8_missedOf_X8_tries : GoodIn wsX8_missedOf wsX8_tries := goodIn_r _ [7, 1, 8, 9, 10, 11, 6, 12, 13, 14, 15, 16, 17, 18, 19, 20, 21, 22, 23, 24, 25, 26, 27, 28, 29, 30, 2, 31, 32, 33, 34, 35, 36, 37, 38, 39, 40, 41, 42, 43, 44, 45, 46, 47, 48, 49, 50, 51, 52, 53, 54, 55, 56, 57, 58, 59, 60, 61, 62, 63, 64, 65, 66, 67, 68, 69, 70] (by decide +kernel) (by decide +kernel)
set_option maxRecDepth 20000 in
theorem gX8_missedOf_X8_tries : GoodIn wsX8_missedOf (wsV RX8 206 RX8 yX8_tries wsX8_tries) := goodIn_app (goodIn_of _ (by decide +kernel)) ggX8_missedOf_X8_tries
theorem iX8_missedOf_8 : ∀ w ∈ u_ws RX8 TX8 25, w ∈ wsX8_missedOf := fun w h => List.mem_cons_of_mem _ (List.mem_append_right _ (h))
set_option maxHeartbeats 4000000 in
set_option maxRecDepth 100000 in
theorem w_X8_missedOf_L8 {p : Program} {l : Launch} {e : Env} {s : State} {m : MethodId} {args : Array Value} {below : List Frame} {meth : Method} {c : Code} {E : EE} {g : GG} {ad : Nat → Nat} (hg : gwf g) (X : CallFix p m c cX8_missedOf 4 s args wsX8_missedOf RX8) (K : Kn E s) (hr : meth.sig.returnType = (some .int)) (hlk : meth.locks = false) {Q : Int → Mm → Prop} : ∀ (n : Nat) (o0 : Nat) (x1 : Int) (x2 : Int) (x3 : Int) (M : Mm) (H : Heap) (locs : List Loc) (ls : Array Slot), gk g o0 = 8 → Rw E g ad M s.heap H locs → lv_has ls 4 [(0, .ref (ad o0)), (1, cI x1), (2, cI x2), (3, cI x3)] → p_X8_missedOf_L8 g n o0 x1 x2 x3 M Q → W p l e rmX8_missedOf s m args below meth c H locs 0 0 (MQ below (QI E g ad Q) args s 0 0 (Rg g ad)) (F0 m 8 ls []) := by
  intro n
  induction n with
  | zero =>
    intro o0 x1 x2 x3 M H locs ls k_o0 w hl h
    exact absurd h (by unfold p_X8_missedOf_L8; exact id)
  | succ n ih =>
    intro o0 x1 x2 x3 M H locs ls k_o0 w hl h
    unfold p_X8_missedOf_L8 at h
    refine lv_iload_n X.1 X.2.1 dX8_missedOf_8 rfl (lv_at hl 3 rfl) ?_
    refine lv_aload_n X.1 X.2.1 dX8_missedOf_9 rfl (lv_at hl 0 rfl) ?_
    refine r_getr (N := 25) (T := TX8) X K w iX8_missedOf_8 k_o0 rfl (by decide) 0 (by decide) rfl rfl (List.mem_of_getElem? (i := 1) rfl) dX8_missedOf_10 ?_
    have k2 : gk g (o0 + 1) = 9 := gch hg k_o0 (by decide) 0 (by decide) rfl rfl
    refine r_bipush X dX8_missedOf_13 (by decide +kernel) ?_
    obtain ⟨b1, h⟩ := h
    refine r_iald X K w hg k2 (by decide) b1 dX8_missedOf_15 ?_
    obtain ⟨i0, i1, h1, h2⟩ := h
    refine r_icmp_ge (tgt := 52) X i0 i1 dX8_missedOf_16 (by decide) (fun cc => ?_) (fun cc => ?_)
    · have h := h1 cc
      refine lv_iload_n X.1 X.2.1 dX8_missedOf_52 rfl (lv_at hl 2 rfl) ?_
      exact r_ireturn X hr hlk K w h dX8_missedOf_53
    · have h := h2 cc
      refine lv_iload_n X.1 X.2.1 dX8_missedOf_19 rfl (lv_at hl 2 rfl) ?_
      refine lv_aload_n X.1 X.2.1 dX8_missedOf_20 rfl (lv_at hl 0 rfl) ?_
      refine lv_iload_n X.1 X.2.1 dX8_missedOf_21 rfl (lv_at hl 3 rfl) ?_
      refine r_iconst X dX8_missedOf_22 ?_
      refine q_i (x_V (As := [cI x3, cI 0]) (rest := [cI x2]) X K w (c_X8_of hg k_o0 h) (cwV 2 X.2.2.2.2 gX8_missedOf_X8_of rfl rfl rfl (by decide +kernel) ⟨Nat.le_of_ble_eq_true rfl, Nat.le_of_ble_eq_true rfl⟩) k_o0 (by decide) rfl rfl hl rfl (Nat.le_of_ble_eq_true rfl) dX8_missedOf_23 ⟨Nat.le_of_ble_eq_true rfl, Nat.le_of_ble_eq_true rfl⟩) w (fun r4 M3 H locs h w => ?_)
      refine lv_iload_n X.1 X.2.1 dX8_missedOf_26 rfl (lv_at hl 1 rfl) ?_
      obtain ⟨i0, i1, h1, h2⟩ := h
      refine r_icmp_ne (tgt := 43) X i0 i1 dX8_missedOf_27 (by decide) (fun cc => ?_) (fun cc => ?_)
      · have h := h1 cc
        refine r_iconst X dX8_missedOf_43 ?_
        refine r_iadd X dX8_missedOf_44 ?_
        refine lv_istore_n (lv' := [(2, cI (x2 + 0)), (0, .ref (ad o0)), (1, cI x1), (3, cI x3)]) X.1 X.2.1 dX8_missedOf_45 rfl hl (by decide) rfl (fun ls hl => ?_)
        refine r_iinc (lv' := [(3, cI (x3 + 1)), (2, cI (x2 + 0)), (0, .ref (ad o0)), (1, cI x1)]) X hl (k := 3) rfl (by decide) dX8_missedOf_46 rfl (fun ls hl => ?_)
        refine lv_goto (tgt := 8) X.1 X.2.1 dX8_missedOf_49 (by decide) ?_
        exact ih o0 x1 (x2 + 0) (x3 + 1) M3 _ _ _ k_o0 w (lv_sub hl [2, 3, 1, 0] rfl) h
      · have h := h2 cc
        refine lv_aload_n X.1 X.2.1 dX8_missedOf_30 rfl (lv_at hl 0 rfl) ?_
        refine r_getr (N := 25) (T := TX8) X K w iX8_missedOf_8 k_o0 rfl (by decide) 8 (by decide) rfl rfl (List.mem_of_getElem? (i := 2) rfl) dX8_missedOf_31 ?_
        have k5 : gk g (o0 + 7) = 9 := gch hg k_o0 (by decide) 8 (by decide) rfl rfl
        refine lv_iload_n X.1 X.2.1 dX8_missedOf_34 rfl (lv_at hl 3 rfl) ?_
        obtain ⟨b0, b1, h⟩ := h
        refine r_iald X K w hg k5 b0 b1 dX8_missedOf_35 ?_
        obtain ⟨i0, h1, h2⟩ := h
        refine r_if_le (tgt := 43) X i0 dX8_missedOf_36 (by decide) (fun cc => ?_) (fun cc => ?_)
        · have h := h1 cc
          refine r_iconst X dX8_missedOf_43 ?_
          refine r_iadd X dX8_missedOf_44 ?_
          refine lv_istore_n (lv' := [(2, cI (x2 + 0)), (0, .ref (ad o0)), (1, cI x1), (3, cI x3)]) X.1 X.2.1 dX8_missedOf_45 rfl hl (by decide) rfl (fun ls hl => ?_)
          refine r_iinc (lv' := [(3, cI (x3 + 1)), (2, cI (x2 + 0)), (0, .ref (ad o0)), (1, cI x1)]) X hl (k := 3) rfl (by decide) dX8_missedOf_46 rfl (fun ls hl => ?_)
          refine lv_goto (tgt := 8) X.1 X.2.1 dX8_missedOf_49 (by decide) ?_
          exact ih o0 x1 (x2 + 0) (x3 + 1) M3 _ _ _ k_o0 w (lv_sub hl [2, 3, 1, 0] rfl) h
        · have h := h2 cc
          refine r_iconst X dX8_missedOf_39 ?_
          refine lv_goto (tgt := 44) X.1 X.2.1 dX8_missedOf_40 (by decide) ?_
          refine r_iadd X dX8_missedOf_44 ?_
          refine lv_istore_n (lv' := [(2, cI (x2 + 1)), (0, .ref (ad o0)), (1, cI x1), (3, cI x3)]) X.1 X.2.1 dX8_missedOf_45 rfl hl (by decide) rfl (fun ls hl => ?_)
          refine r_iinc (lv' := [(3, cI (x3 + 1)), (2, cI (x2 + 1)), (0, .ref (ad o0)), (1, cI x1)]) X hl (k := 3) rfl (by decide) dX8_missedOf_46 rfl (fun ls hl => ?_)
          refine lv_goto (tgt := 8) X.1 X.2.1 dX8_missedOf_49 (by decide) ?_
          exact ih o0 x1 (x2 + 1) (x3 + 1) M3 _ _ _ k_o0 w (lv_sub hl [2, 3, 1, 0] rfl) h
set_option maxHeartbeats 4000000 in
set_option maxRecDepth 100000 in
theorem c_X8_missedOf {E : EE} {l : Launch} {g : GG} {ad : Nat → Nat} (hg : gwf g) {o0 : Nat} {x1 : Int} {M : Mm} {Q : Int → Mm → Prop} (k_o0 : gk g o0 = 8) (h : p_X8_missedOf g o0 x1 M Q) : Ct E l yX8_missedOf wsX8_missedOf rmX8_missedOf g ad [.ref (ad o0), cI x1] M (QI E g ad Q) := by
  refine ent (cc := cX8_missedOf) (maxL := 4) (ret := (some .int)) (own := RX8) (by decide +kernel) rfl rfl (Nat.le_of_ble_eq_true rfl) ?_
  intro p e s m below meth c ls X hr hlk K w hl
  have hl : lv_has ls 4 [(0, .ref (ad o0)), (1, cI x1)] := hl
  unfold p_X8_missedOf at h
  refine lv_aload_n X.1 X.2.1 dX8_missedOf_0 rfl (lv_at hl 0 rfl) ?_
  refine q_v (x_V (As := []) (rest := []) X K w (c_X8_tries hg k_o0 h) (cwV 0 X.2.2.2.2 gX8_missedOf_X8_tries rfl rfl rfl (by decide +kernel) ⟨Nat.le_of_ble_eq_true rfl, Nat.le_of_ble_eq_true rfl⟩) k_o0 (by decide) rfl rfl hl rfl (Nat.le_of_ble_eq_true rfl) dX8_missedOf_1 ⟨Nat.le_of_ble_eq_true rfl, Nat.le_of_ble_eq_true rfl⟩) w (fun M1 H locs h w => ?_)
  refine r_iconst X dX8_missedOf_4 ?_
  refine lv_istore_n (lv' := [(2, cI 0), (0, .ref (ad o0)), (1, cI x1)]) X.1 X.2.1 dX8_missedOf_5 rfl hl (by decide) rfl (fun ls hl => ?_)
  refine r_iconst X dX8_missedOf_6 ?_
  refine lv_istore_n (lv' := [(3, cI 0), (2, cI 0), (0, .ref (ad o0)), (1, cI x1)]) X.1 X.2.1 dX8_missedOf_7 rfl hl (by decide) rfl (fun ls hl => ?_)
  obtain ⟨n6, h⟩ := h
  exact w_X8_missedOf_L8 hg X K hr hlk n6 o0 x1 0 0 M1 _ _ _ k_o0 w (lv_sub hl [2, 3, 1, 0] rfl) h
theorem dX8_lentTo_0 : decode cX8_lentTo 0 = .ok (.aload_n 0, 1) := by decide +kernel
theorem dX8_lentTo_1 : decode cX8_lentTo 1 = .ok (.invokevirtual 206, 3) := by decide +kernel
theorem dX8_lentTo_4 : decode cX8_lentTo 4 = .ok (.iconst 0, 1) := by decide +kernel
theorem dX8_lentTo_5 : decode cX8_lentTo 5 = .ok (.istore_n 2, 1) := by decide +kernel
theorem dX8_lentTo_6 : decode cX8_lentTo 6 = .ok (.iconst 0, 1) := by decide +kernel
theorem dX8_lentTo_7 : decode cX8_lentTo 7 = .ok (.istore_n 3, 1) := by decide +kernel
theorem dX8_lentTo_8 : decode cX8_lentTo 8 = .ok (.iload_n 3, 1) := by decide +kernel
theorem dX8_lentTo_9 : decode cX8_lentTo 9 = .ok (.aload_n 0, 1) := by decide +kernel
theorem dX8_lentTo_10 : decode cX8_lentTo 10 = .ok (.getfield 7, 3) := by decide +kernel
theorem dX8_lentTo_13 : decode cX8_lentTo 13 = .ok (.bipush 36, 2) := by decide +kernel
theorem dX8_lentTo_15 : decode cX8_lentTo 15 = .ok (.iaload, 1) := by decide +kernel
theorem dX8_lentTo_16 : decode cX8_lentTo 16 = .ok (.if_icmp .ge 32, 3) := by decide +kernel
theorem dX8_lentTo_19 : decode cX8_lentTo 19 = .ok (.iload_n 2, 1) := by decide +kernel
theorem dX8_lentTo_20 : decode cX8_lentTo 20 = .ok (.aload_n 0, 1) := by decide +kernel
theorem dX8_lentTo_21 : decode cX8_lentTo 21 = .ok (.iload_n 3, 1) := by decide +kernel
theorem dX8_lentTo_22 : decode cX8_lentTo 22 = .ok (.iconst 0, 1) := by decide +kernel
theorem dX8_lentTo_23 : decode cX8_lentTo 23 = .ok (.invokevirtual 77, 3) := by decide +kernel
theorem dX8_lentTo_26 : decode cX8_lentTo 26 = .ok (.iload_n 1, 1) := by decide +kernel
theorem dX8_lentTo_27 : decode cX8_lentTo 27 = .ok (.if_icmp .ne 12, 3) := by decide +kernel
theorem dX8_lentTo_30 : decode cX8_lentTo 30 = .ok (.aload_n 0, 1) := by decide +kernel
theorem dX8_lentTo_31 : decode cX8_lentTo 31 = .ok (.getfield 34, 3) := by decide +kernel
theorem dX8_lentTo_34 : decode cX8_lentTo 34 = .ok (.iload_n 3, 1) := by decide +kernel
theorem dX8_lentTo_35 : decode cX8_lentTo 35 = .ok (.iaload, 1) := by decide +kernel
theorem dX8_lentTo_36 : decode cX8_lentTo 36 = .ok (.goto 4, 3) := by decide +kernel
theorem dX8_lentTo_39 : decode cX8_lentTo 39 = .ok (.iconst 0, 1) := by decide +kernel
theorem dX8_lentTo_40 : decode cX8_lentTo 40 = .ok (.iadd, 1) := by decide +kernel
theorem dX8_lentTo_41 : decode cX8_lentTo 41 = .ok (.istore_n 2, 1) := by decide +kernel
theorem dX8_lentTo_42 : decode cX8_lentTo 42 = .ok (.iinc 3 1, 3) := by decide +kernel
theorem dX8_lentTo_45 : decode cX8_lentTo 45 = .ok (.goto (-37), 3) := by decide +kernel
theorem dX8_lentTo_48 : decode cX8_lentTo 48 = .ok (.iload_n 2, 1) := by decide +kernel
theorem dX8_lentTo_49 : decode cX8_lentTo 49 = .ok (.ireturn, 1) := by decide +kernel
set_option maxRecDepth 20000 in
theorem ggX8_lentTo_X8_of : GoodIn wsX8_lentTo wsX8_of := goodIn_r _ [34, 1, 46, 47, 48, 49, 50, 51, 52, 53, 54, 55, 56, 57, 58, 59, 60, 61, 62, 63, 64, 65, 66, 67, 68, 69, 70] (by decide +kernel) (by decide +kernel)
set_option maxRecDepth 20000 in
theorem gX8_lentTo_X8_of : GoodIn wsX8_lentTo (wsV RX8 77 RX8 yX8_of wsX8_of) := goodIn_app (goodIn_of _ (by decide +kernel)) ggX8_lentTo_X8_of
set_option maxRecDepth 20000 in
theorem ggX8_lentTo_X8_tries : GoodIn wsX8_lentTo wsX8_tries := goodIn_r _ [7, 1, 8, 9, 10, 11, 6, 12, 13, 14, 15, 16, 17, 18, 19, 20, 21, 22, 23, 24, 25, 26, 27, 28, 29, 2, 30, 31, 32, 33, 34, 35, 36, 37, 38, 39, 40, 41, 42, 43, 44, 45, 46, 47, 48, 49, 50, 51, 52, 53, 54, 55, 56, 57, 58, 59, 60, 61, 62, 63, 64, 65, 66, 67, 68, 69, 70] (by decide +kernel) (by decide +kernel)
set_option maxRecDepth 20000 in
theorem gX8_lentTo_X8_tries : GoodIn wsX8_lentTo (wsV RX8 206 RX8 yX8_tries wsX8_tries) := goodIn_app (goodIn_of _ (by decide +kernel)) ggX8_lentTo_X8_tries
theorem iX8_lentTo_8 : ∀ w ∈ u_ws RX8 TX8 25, w ∈ wsX8_lentTo := fun w h => List.mem_cons_of_mem _ (List.mem_append_right _ (h))
set_option maxHeartbeats 4000000 in
set_option maxRecDepth 100000 in
theorem w_X8_lentTo_L8 {p : Program} {l : Launch} {e : Env} {s : State} {m : MethodId} {args : Array Value} {below : List Frame} {meth : Method} {c : Code} {E : EE} {g : GG} {ad : Nat → Nat} (hg : gwf g) (X : CallFix p m c cX8_lentTo 4 s args wsX8_lentTo RX8) (K : Kn E s) (hr : meth.sig.returnType = (some .int)) (hlk : meth.locks = false) {Q : Int → Mm → Prop} : ∀ (n : Nat) (o0 : Nat) (x1 : Int) (x2 : Int) (x3 : Int) (M : Mm) (H : Heap) (locs : List Loc) (ls : Array Slot), gk g o0 = 8 → Rw E g ad M s.heap H locs → lv_has ls 4 [(0, .ref (ad o0)), (1, cI x1), (2, cI x2), (3, cI x3)] → p_X8_lentTo_L8 g n o0 x1 x2 x3 M Q → W p l e rmX8_lentTo s m args below meth c H locs 0 0 (MQ below (QI E g ad Q) args s 0 0 (Rg g ad)) (F0 m 8 ls []) := by
  intro n
  induction n with
  | zero =>
    intro o0 x1 x2 x3 M H locs ls k_o0 w hl h
    exact absurd h (by unfold p_X8_lentTo_L8; exact id)
  | succ n ih =>
    intro o0 x1 x2 x3 M H locs ls k_o0 w hl h
    unfold p_X8_lentTo_L8 at h
    refine lv_iload_n X.1 X.2.1 dX8_lentTo_8 rfl (lv_at hl 3 rfl) ?_
    refine lv_aload_n X.1 X.2.1 dX8_lentTo_9 rfl (lv_at hl 0 rfl) ?_
    refine r_getr (N := 25) (T := TX8) X K w iX8_lentTo_8 k_o0 rfl (by decide) 0 (by decide) rfl rfl (List.mem_of_getElem? (i := 1) rfl) dX8_lentTo_10 ?_
    have k2 : gk g (o0 + 1) = 9 := gch hg k_o0 (by decide) 0 (by decide) rfl rfl
    refine r_bipush X dX8_lentTo_13 (by decide +kernel) ?_
    obtain ⟨b1, h⟩ := h
    refine r_iald X K w hg k2 (by decide) b1 dX8_lentTo_15 ?_
    obtain ⟨i0, i1, h1, h2⟩ := h
    refine r_icmp_ge (tgt := 48) X i0 i1 dX8_lentTo_16 (by decide) (fun cc => ?_) (fun cc => ?_)
    · have h := h1 cc
      refine lv_iload_n X.1 X.2.1 dX8_lentTo_48 rfl (lv_at hl 2 rfl) ?_
      exact r_ireturn X hr hlk K w h dX8_lentTo_49
    · have h := h2 cc
      refine lv_iload_n X.1 X.2.1 dX8_lentTo_19 rfl (lv_at hl 2 rfl) ?_
      refine lv_aload_n X.1 X.2.1 dX8_lentTo_20 rfl (lv_at hl 0 rfl) ?_
      refine lv_iload_n X.1 X.2.1 dX8_lentTo_21 rfl (lv_at hl 3 rfl) ?_
      refine r_iconst X dX8_lentTo_22 ?_
      refine q_i (x_V (As := [cI x3, cI 0]) (rest := [cI x2]) X K w (c_X8_of hg k_o0 h) (cwV 2 X.2.2.2.2 gX8_lentTo_X8_of rfl rfl rfl (by decide +kernel) ⟨Nat.le_of_ble_eq_true rfl, Nat.le_of_ble_eq_true rfl⟩) k_o0 (by decide) rfl rfl hl rfl (Nat.le_of_ble_eq_true rfl) dX8_lentTo_23 ⟨Nat.le_of_ble_eq_true rfl, Nat.le_of_ble_eq_true rfl⟩) w (fun r4 M3 H locs h w => ?_)
      refine lv_iload_n X.1 X.2.1 dX8_lentTo_26 rfl (lv_at hl 1 rfl) ?_
      obtain ⟨i0, i1, h1, h2⟩ := h
      refine r_icmp_ne (tgt := 39) X i0 i1 dX8_lentTo_27 (by decide) (fun cc => ?_) (fun cc => ?_)
      · have h := h1 cc
        refine r_iconst X dX8_lentTo_39 ?_
        refine r_iadd X dX8_lentTo_40 ?_
        refine lv_istore_n (lv' := [(2, cI (x2 + 0)), (0, .ref (ad o0)), (1, cI x1), (3, cI x3)]) X.1 X.2.1 dX8_lentTo_41 rfl hl (by decide) rfl (fun ls hl => ?_)
        refine r_iinc (lv' := [(3, cI (x3 + 1)), (2, cI (x2 + 0)), (0, .ref (ad o0)), (1, cI x1)]) X hl (k := 3) rfl (by decide) dX8_lentTo_42 rfl (fun ls hl => ?_)
        refine lv_goto (tgt := 8) X.1 X.2.1 dX8_lentTo_45 (by decide) ?_
        exact ih o0 x1 (x2 + 0) (x3 + 1) M3 _ _ _ k_o0 w (lv_sub hl [2, 3, 1, 0] rfl) h
      · have h := h2 cc
        refine lv_aload_n X.1 X.2.1 dX8_lentTo_30 rfl (lv_at hl 0 rfl) ?_
        refine r_getr (N := 25) (T := TX8) X K w iX8_lentTo_8 k_o0 rfl (by decide) 10 (by decide) rfl rfl (List.mem_of_getElem? (i := 2) rfl) dX8_lentTo_31 ?_
        have k5 : gk g (o0 + 9) = 9 := gch hg k_o0 (by decide) 10 (by decide) rfl rfl
        refine lv_iload_n X.1 X.2.1 dX8_lentTo_34 rfl (lv_at hl 3 rfl) ?_
        obtain ⟨b0, b1, h⟩ := h
        refine r_iald X K w hg k5 b0 b1 dX8_lentTo_35 ?_
        refine lv_goto (tgt := 40) X.1 X.2.1 dX8_lentTo_36 (by decide) ?_
        refine r_iadd X dX8_lentTo_40 ?_
        refine lv_istore_n (lv' := [(2, cI (x2 + (M3 (o0 + 9) x3))), (0, .ref (ad o0)), (1, cI x1), (3, cI x3)]) X.1 X.2.1 dX8_lentTo_41 rfl hl (by decide) rfl (fun ls hl => ?_)
        refine r_iinc (lv' := [(3, cI (x3 + 1)), (2, cI (x2 + (M3 (o0 + 9) x3))), (0, .ref (ad o0)), (1, cI x1)]) X hl (k := 3) rfl (by decide) dX8_lentTo_42 rfl (fun ls hl => ?_)
        refine lv_goto (tgt := 8) X.1 X.2.1 dX8_lentTo_45 (by decide) ?_
        exact ih o0 x1 (x2 + (M3 (o0 + 9) x3)) (x3 + 1) M3 _ _ _ k_o0 w (lv_sub hl [2, 3, 1, 0] rfl) h
set_option maxHeartbeats 4000000 in
set_option maxRecDepth 100000 in
theorem c_X8_lentTo {E : EE} {l : Launch} {g : GG} {ad : Nat → Nat} (hg : gwf g) {o0 : Nat} {x1 : Int} {M : Mm} {Q : Int → Mm → Prop} (k_o0 : gk g o0 = 8) (h : p_X8_lentTo g o0 x1 M Q) : Ct E l yX8_lentTo wsX8_lentTo rmX8_lentTo g ad [.ref (ad o0), cI x1] M (QI E g ad Q) := by
  refine ent (cc := cX8_lentTo) (maxL := 4) (ret := (some .int)) (own := RX8) (by decide +kernel) rfl rfl (Nat.le_of_ble_eq_true rfl) ?_
  intro p e s m below meth c ls X hr hlk K w hl
  have hl : lv_has ls 4 [(0, .ref (ad o0)), (1, cI x1)] := hl
  unfold p_X8_lentTo at h
  refine lv_aload_n X.1 X.2.1 dX8_lentTo_0 rfl (lv_at hl 0 rfl) ?_
  refine q_v (x_V (As := []) (rest := []) X K w (c_X8_tries hg k_o0 h) (cwV 0 X.2.2.2.2 gX8_lentTo_X8_tries rfl rfl rfl (by decide +kernel) ⟨Nat.le_of_ble_eq_true rfl, Nat.le_of_ble_eq_true rfl⟩) k_o0 (by decide) rfl rfl hl rfl (Nat.le_of_ble_eq_true rfl) dX8_lentTo_1 ⟨Nat.le_of_ble_eq_true rfl, Nat.le_of_ble_eq_true rfl⟩) w (fun M1 H locs h w => ?_)
  refine r_iconst X dX8_lentTo_4 ?_
  refine lv_istore_n (lv' := [(2, cI 0), (0, .ref (ad o0)), (1, cI x1)]) X.1 X.2.1 dX8_lentTo_5 rfl hl (by decide) rfl (fun ls hl => ?_)
  refine r_iconst X dX8_lentTo_6 ?_
  refine lv_istore_n (lv' := [(3, cI 0), (2, cI 0), (0, .ref (ad o0)), (1, cI x1)]) X.1 X.2.1 dX8_lentTo_7 rfl hl (by decide) rfl (fun ls hl => ?_)
  obtain ⟨n6, h⟩ := h
  exact w_X8_lentTo_L8 hg X K hr hlk n6 o0 x1 0 0 M1 _ _ _ k_o0 w (lv_sub hl [2, 3, 1, 0] rfl) h
theorem dX8_scene_0 : decode cX8_scene 0 = .ok (.iload_n 1, 1) := by decide +kernel
theorem dX8_scene_1 : decode cX8_scene 1 = .ok (.invokestatic 187, 3) := by decide +kernel
theorem dX8_scene_4 : decode cX8_scene 4 = .ok (.ifCond .ne 5, 3) := by decide +kernel
theorem dX8_scene_7 : decode cX8_scene 7 = .ok (.iconst (-1), 1) := by decide +kernel
theorem dX8_scene_8 : decode cX8_scene 8 = .ok (.ireturn, 1) := by decide +kernel
theorem dX8_scene_9 : decode cX8_scene 9 = .ok (.iload_n 2, 1) := by decide +kernel
theorem dX8_scene_10 : decode cX8_scene 10 = .ok (.tableswitch 64 0 4 #[34, 40, 46, 52, 58], 34) := by decide +kernel
theorem dX8_scene_44 : decode cX8_scene 44 = .ok (.aload_n 0, 1) := by decide +kernel
theorem dX8_scene_45 : decode cX8_scene 45 = .ok (.iload_n 1, 1) := by decide +kernel
theorem dX8_scene_46 : decode cX8_scene 46 = .ok (.invokevirtual 197, 3) := by decide +kernel
theorem dX8_scene_49 : decode cX8_scene 49 = .ok (.ireturn, 1) := by decide +kernel
theorem dX8_scene_50 : decode cX8_scene 50 = .ok (.aload_n 0, 1) := by decide +kernel
theorem dX8_scene_51 : decode cX8_scene 51 = .ok (.iload_n 1, 1) := by decide +kernel
theorem dX8_scene_52 : decode cX8_scene 52 = .ok (.invokevirtual 216, 3) := by decide +kernel
theorem dX8_scene_55 : decode cX8_scene 55 = .ok (.ireturn, 1) := by decide +kernel
theorem dX8_scene_56 : decode cX8_scene 56 = .ok (.aload_n 0, 1) := by decide +kernel
theorem dX8_scene_57 : decode cX8_scene 57 = .ok (.iload_n 1, 1) := by decide +kernel
theorem dX8_scene_58 : decode cX8_scene 58 = .ok (.invokevirtual 219, 3) := by decide +kernel
theorem dX8_scene_61 : decode cX8_scene 61 = .ok (.ireturn, 1) := by decide +kernel
theorem dX8_scene_62 : decode cX8_scene 62 = .ok (.aload_n 0, 1) := by decide +kernel
theorem dX8_scene_63 : decode cX8_scene 63 = .ok (.iload_n 1, 1) := by decide +kernel
theorem dX8_scene_64 : decode cX8_scene 64 = .ok (.invokevirtual 222, 3) := by decide +kernel
theorem dX8_scene_67 : decode cX8_scene 67 = .ok (.ireturn, 1) := by decide +kernel
theorem dX8_scene_68 : decode cX8_scene 68 = .ok (.aload_n 0, 1) := by decide +kernel
theorem dX8_scene_69 : decode cX8_scene 69 = .ok (.iload_n 1, 1) := by decide +kernel
theorem dX8_scene_70 : decode cX8_scene 70 = .ok (.invokevirtual 225, 3) := by decide +kernel
theorem dX8_scene_73 : decode cX8_scene 73 = .ok (.ireturn, 1) := by decide +kernel
theorem dX8_scene_74 : decode cX8_scene 74 = .ok (.bipush (-2), 2) := by decide +kernel
theorem dX8_scene_76 : decode cX8_scene 76 = .ok (.ireturn, 1) := by decide +kernel
set_option maxRecDepth 20000 in
theorem ggX8_scene_X8_cuesOf : GoodIn wsX8_scene wsX8_cuesOf := goodIn_r _ [12, 13, 14, 15, 16, 3, 17, 73, 74, 75, 76, 77, 78, 79, 80, 81, 82, 83, 84, 85, 86, 87, 88, 89, 90, 91, 92, 93, 94, 95, 96, 97] (by decide +kernel) (by decide +kernel)
set_option maxRecDepth 20000 in
theorem gX8_scene_X8_cuesOf : GoodIn wsX8_scene (wsV RX8 197 RX8 yX8_cuesOf wsX8_cuesOf) := goodIn_app (goodIn_of _ (by decide +kernel)) ggX8_scene_X8_cuesOf
set_option maxRecDepth 20000 in
theorem ggX8_scene_X8_firstTick : GoodIn wsX8_scene wsX8_firstTick := goodIn_r _ [21, 13, 14, 15, 16, 3, 17, 73, 74, 75, 76, 77, 78, 79, 80, 81, 82, 83, 84, 85, 86, 87, 88, 89, 90, 91, 92, 93, 94, 95, 96, 97] (by decide +kernel) (by decide +kernel)
set_option maxRecDepth 20000 in
theorem gX8_scene_X8_firstTick : GoodIn wsX8_scene (wsV RX8 216 RX8 yX8_firstTick wsX8_firstTick) := goodIn_app (goodIn_of _ (by decide +kernel)) ggX8_scene_X8_firstTick
set_option maxRecDepth 20000 in
theorem ggX8_scene_X8_greatestEnd : GoodIn wsX8_scene wsX8_greatestEnd := goodIn_r _ [25, 13, 14, 15, 16, 3, 17, 73, 74, 75, 76, 77, 78, 79, 80, 81, 82, 83, 84, 85, 86, 87, 88, 89, 90, 91, 92, 93, 94, 95, 96, 97] (by decide +kernel) (by decide +kernel)
set_option maxRecDepth 20000 in
theorem gX8_scene_X8_greatestEnd : GoodIn wsX8_scene (wsV RX8 219 RX8 yX8_greatestEnd wsX8_greatestEnd) := goodIn_app (goodIn_of _ (by decide +kernel)) ggX8_scene_X8_greatestEnd
set_option maxRecDepth 20000 in
theorem ggX8_scene_X8_isScene : GoodIn wsX8_scene wsX8_isScene := goodIn_r _ [4, 5, 6, 7, 3, 8] (by decide +kernel) (by decide +kernel)
set_option maxRecDepth 20000 in
theorem gX8_scene_X8_isScene : GoodIn wsX8_scene (va_wsS RX8 187 yX8_isScene wsX8_isScene) := goodIn_app (goodIn_of _ (by decide +kernel)) ggX8_scene_X8_isScene
set_option maxRecDepth 20000 in
theorem ggX8_scene_X8_lentTo : GoodIn wsX8_scene wsX8_lentTo := goodIn_r _ [72, 13, 57, 31, 32, 33, 3, 34, 35, 36, 37, 38, 39, 40, 41, 42, 43, 44, 45, 46, 47, 48, 49, 50, 51, 52, 53, 54, 55, 56, 30, 14, 15, 16, 17, 58, 59, 60, 61, 62, 63, 64, 65, 66, 67, 68, 73, 74, 75, 76, 77, 78, 79, 80, 81, 82, 83, 84, 85, 86, 87, 88, 89, 90, 91, 92, 93, 94, 95, 96, 97] (by decide +kernel) (by decide +kernel)
set_option maxRecDepth 20000 in
theorem gX8_scene_X8_lentTo : GoodIn wsX8_scene (wsV RX8 225 RX8 yX8_lentTo wsX8_lentTo) := goodIn_app (goodIn_of _ (by decide +kernel)) ggX8_scene_X8_lentTo
set_option maxRecDepth 20000 in
theorem ggX8_scene_X8_missedOf : GoodIn wsX8_scene wsX8_missedOf := goodIn_r _ [29, 13, 30, 31, 32, 33, 3, 34, 35, 36, 37, 38, 39, 40, 41, 42, 43, 44, 45, 46, 47, 48, 49, 50, 51, 52, 53, 54, 55, 56, 57, 14, 15, 16, 17, 58, 59, 60, 61, 62, 63, 64, 65, 66, 67, 68, 73, 74, 75, 76, 77, 78, 79, 80, 81, 82, 83, 84, 85, 86, 87, 88, 89, 90, 91, 92, 93, 94, 95, 96, 97] (by decide +kernel) (by decide +kernel)
set_option maxRecDepth 20000 in
theorem gX8_scene_X8_missedOf : GoodIn wsX8_scene (wsV RX8 222 RX8 yX8_missedOf wsX8_missedOf) := goodIn_app (goodIn_of _ (by decide +kernel)) ggX8_scene_X8_missedOf
set_option maxHeartbeats 4000000 in
set_option maxRecDepth 100000 in
theorem c_X8_scene {E : EE} {l : Launch} {g : GG} {ad : Nat → Nat} (hg : gwf g) {o0 : Nat} {x1 : Int} {x2 : Int} {M : Mm} {Q : Int → Mm → Prop} (k_o0 : gk g o0 = 8) (h : p_X8_scene g o0 x1 x2 M Q) : Ct E l yX8_scene wsX8_scene rmX8_scene g ad [.ref (ad o0), cI x1, cI x2] M (QI E g ad Q) := by
  refine ent (cc := cX8_scene) (maxL := 3) (ret := (some .int)) (own := RX8) (by decide +kernel) rfl rfl (Nat.le_of_ble_eq_true rfl) ?_
  intro p e s m below meth c ls X hr hlk K w hl
  have hl : lv_has ls 3 [(0, .ref (ad o0)), (1, cI x1), (2, cI x2)] := hl
  unfold p_X8_scene at h
  refine lv_iload_n X.1 X.2.1 dX8_scene_0 rfl (lv_at hl 1 rfl) ?_
  refine q_i (x_S (As := [cI x1]) (rest := []) X K w (c_X8_isScene hg h) (va_cwS 1 X.2.2.2.2 gX8_scene_X8_isScene rfl rfl rfl (by decide +kernel) ⟨Nat.le_of_ble_eq_true rfl, Nat.le_of_ble_eq_true rfl⟩) rfl hl rfl (Nat.le_of_ble_eq_true rfl) dX8_scene_1 ⟨Nat.le_of_ble_eq_true rfl, Nat.le_of_ble_eq_true rfl⟩) w (fun r2 M1 H locs h w => ?_)
  obtain ⟨i0, h1, h2⟩ := h
  refine r_if_ne (tgt := 9) X i0 dX8_scene_4 (by decide) (fun cc => ?_) (fun cc => ?_)
  · have h := h1 cc
    refine lv_iload_n X.1 X.2.1 dX8_scene_9 rfl (lv_at hl 2 rfl) ?_
    obtain ⟨i0, h⟩ := h
    obtain ⟨h1, h⟩ := h
    by_cases cs0 : x2 = 0
    · have h := h1 cs0
      refine r_tabIn (tgt := 44) X i0 dX8_scene_10 0 cs0 (by decide) (by decide) rfl (by decide) ?_
      refine lv_aload_n X.1 X.2.1 dX8_scene_44 rfl (lv_at hl 0 rfl) ?_
      refine lv_iload_n X.1 X.2.1 dX8_scene_45 rfl (lv_at hl 1 rfl) ?_
      refine q_i (x_V (As := [cI x1]) (rest := []) X K w (c_X8_cuesOf hg k_o0 h) (cwV 1 X.2.2.2.2 gX8_scene_X8_cuesOf rfl rfl rfl (by decide +kernel) ⟨Nat.le_of_ble_eq_true rfl, Nat.le_of_ble_eq_true rfl⟩) k_o0 (by decide) rfl rfl hl rfl (Nat.le_of_ble_eq_true rfl) dX8_scene_46 ⟨Nat.le_of_ble_eq_true rfl, Nat.le_of_ble_eq_true rfl⟩) w (fun r4 M3 H locs h w => ?_)
      exact r_ireturn X hr hlk K w h dX8_scene_49
    obtain ⟨h1, h⟩ := h
    by_cases cs1 : x2 = 1
    · have h := h1 cs1
      refine r_tabIn (tgt := 50) X i0 dX8_scene_10 1 cs1 (by decide) (by decide) rfl (by decide) ?_
      refine lv_aload_n X.1 X.2.1 dX8_scene_50 rfl (lv_at hl 0 rfl) ?_
      refine lv_iload_n X.1 X.2.1 dX8_scene_51 rfl (lv_at hl 1 rfl) ?_
      refine q_i (x_V (As := [cI x1]) (rest := []) X K w (c_X8_firstTick hg k_o0 h) (cwV 1 X.2.2.2.2 gX8_scene_X8_firstTick rfl rfl rfl (by decide +kernel) ⟨Nat.le_of_ble_eq_true rfl, Nat.le_of_ble_eq_true rfl⟩) k_o0 (by decide) rfl rfl hl rfl (Nat.le_of_ble_eq_true rfl) dX8_scene_52 ⟨Nat.le_of_ble_eq_true rfl, Nat.le_of_ble_eq_true rfl⟩) w (fun r6 M5 H locs h w => ?_)
      exact r_ireturn X hr hlk K w h dX8_scene_55
    obtain ⟨h1, h⟩ := h
    by_cases cs2 : x2 = 2
    · have h := h1 cs2
      refine r_tabIn (tgt := 56) X i0 dX8_scene_10 2 cs2 (by decide) (by decide) rfl (by decide) ?_
      refine lv_aload_n X.1 X.2.1 dX8_scene_56 rfl (lv_at hl 0 rfl) ?_
      refine lv_iload_n X.1 X.2.1 dX8_scene_57 rfl (lv_at hl 1 rfl) ?_
      refine q_i (x_V (As := [cI x1]) (rest := []) X K w (c_X8_greatestEnd hg k_o0 h) (cwV 1 X.2.2.2.2 gX8_scene_X8_greatestEnd rfl rfl rfl (by decide +kernel) ⟨Nat.le_of_ble_eq_true rfl, Nat.le_of_ble_eq_true rfl⟩) k_o0 (by decide) rfl rfl hl rfl (Nat.le_of_ble_eq_true rfl) dX8_scene_58 ⟨Nat.le_of_ble_eq_true rfl, Nat.le_of_ble_eq_true rfl⟩) w (fun r8 M7 H locs h w => ?_)
      exact r_ireturn X hr hlk K w h dX8_scene_61
    obtain ⟨h1, h⟩ := h
    by_cases cs3 : x2 = 3
    · have h := h1 cs3
      refine r_tabIn (tgt := 62) X i0 dX8_scene_10 3 cs3 (by decide) (by decide) rfl (by decide) ?_
      refine lv_aload_n X.1 X.2.1 dX8_scene_62 rfl (lv_at hl 0 rfl) ?_
      refine lv_iload_n X.1 X.2.1 dX8_scene_63 rfl (lv_at hl 1 rfl) ?_
      refine q_i (x_V (As := [cI x1]) (rest := []) X K w (c_X8_missedOf hg k_o0 h) (cwV 1 X.2.2.2.2 gX8_scene_X8_missedOf rfl rfl rfl (by decide +kernel) ⟨Nat.le_of_ble_eq_true rfl, Nat.le_of_ble_eq_true rfl⟩) k_o0 (by decide) rfl rfl hl rfl (Nat.le_of_ble_eq_true rfl) dX8_scene_64 ⟨Nat.le_of_ble_eq_true rfl, Nat.le_of_ble_eq_true rfl⟩) w (fun r10 M9 H locs h w => ?_)
      exact r_ireturn X hr hlk K w h dX8_scene_67
    obtain ⟨h1, h⟩ := h
    by_cases cs4 : x2 = 4
    · have h := h1 cs4
      refine r_tabIn (tgt := 68) X i0 dX8_scene_10 4 cs4 (by decide) (by decide) rfl (by decide) ?_
      refine lv_aload_n X.1 X.2.1 dX8_scene_68 rfl (lv_at hl 0 rfl) ?_
      refine lv_iload_n X.1 X.2.1 dX8_scene_69 rfl (lv_at hl 1 rfl) ?_
      refine q_i (x_V (As := [cI x1]) (rest := []) X K w (c_X8_lentTo hg k_o0 h) (cwV 1 X.2.2.2.2 gX8_scene_X8_lentTo rfl rfl rfl (by decide +kernel) ⟨Nat.le_of_ble_eq_true rfl, Nat.le_of_ble_eq_true rfl⟩) k_o0 (by decide) rfl rfl hl rfl (Nat.le_of_ble_eq_true rfl) dX8_scene_70 ⟨Nat.le_of_ble_eq_true rfl, Nat.le_of_ble_eq_true rfl⟩) w (fun r12 M11 H locs h w => ?_)
      exact r_ireturn X hr hlk K w h dX8_scene_73
    have co : x2 < 0 ∨ 4 < x2 := by omega
    replace h := h co
    refine r_tabOut (tgt := 74) X i0 dX8_scene_10 co (by decide) ?_
    refine r_bipush X dX8_scene_74 (by decide +kernel) ?_
    exact r_ireturn X hr hlk K w h dX8_scene_76
  · have h := h2 cc
    refine r_iconst X dX8_scene_7 ?_
    exact r_ireturn X hr hlk K w h dX8_scene_8
theorem dX8_missed_0 : decode cX8_missed 0 = .ok (.iload_n 1, 1) := by decide +kernel
theorem dX8_missed_1 : decode cX8_missed 1 = .ok (.ifCond .ge 6, 3) := by decide +kernel
theorem dX8_missed_4 : decode cX8_missed 4 = .ok (.bipush (-2), 2) := by decide +kernel
theorem dX8_missed_6 : decode cX8_missed 6 = .ok (.ireturn, 1) := by decide +kernel
theorem dX8_missed_7 : decode cX8_missed 7 = .ok (.aload_n 0, 1) := by decide +kernel
theorem dX8_missed_8 : decode cX8_missed 8 = .ok (.invokevirtual 206, 3) := by decide +kernel
theorem dX8_missed_11 : decode cX8_missed 11 = .ok (.iload_n 1, 1) := by decide +kernel
theorem dX8_missed_12 : decode cX8_missed 12 = .ok (.istore_n 2, 1) := by decide +kernel
theorem dX8_missed_13 : decode cX8_missed 13 = .ok (.iconst 0, 1) := by decide +kernel
theorem dX8_missed_14 : decode cX8_missed 14 = .ok (.istore_n 3, 1) := by decide +kernel
theorem dX8_missed_15 : decode cX8_missed 15 = .ok (.iload_n 3, 1) := by decide +kernel
theorem dX8_missed_16 : decode cX8_missed 16 = .ok (.aload_n 0, 1) := by decide +kernel
theorem dX8_missed_17 : decode cX8_missed 17 = .ok (.getfield 7, 3) := by decide +kernel
theorem dX8_missed_20 : decode cX8_missed 20 = .ok (.bipush 36, 2) := by decide +kernel
theorem dX8_missed_22 : decode cX8_missed 22 = .ok (.iaload, 1) := by decide +kernel
theorem dX8_missed_23 : decode cX8_missed 23 = .ok (.if_icmp .ge 27, 3) := by decide +kernel
theorem dX8_missed_26 : decode cX8_missed 26 = .ok (.aload_n 0, 1) := by decide +kernel
theorem dX8_missed_27 : decode cX8_missed 27 = .ok (.getfield 28, 3) := by decide +kernel
theorem dX8_missed_30 : decode cX8_missed 30 = .ok (.iload_n 3, 1) := by decide +kernel
theorem dX8_missed_31 : decode cX8_missed 31 = .ok (.iaload, 1) := by decide +kernel
theorem dX8_missed_32 : decode cX8_missed 32 = .ok (.ifCond .le 12, 3) := by decide +kernel
theorem dX8_missed_35 : decode cX8_missed 35 = .ok (.iload_n 2, 1) := by decide +kernel
theorem dX8_missed_36 : decode cX8_missed 36 = .ok (.ifCond .ne 5, 3) := by decide +kernel
theorem dX8_missed_39 : decode cX8_missed 39 = .ok (.iload_n 3, 1) := by decide +kernel
theorem dX8_missed_40 : decode cX8_missed 40 = .ok (.ireturn, 1) := by decide +kernel
theorem dX8_missed_41 : decode cX8_missed 41 = .ok (.iinc 2 (-1), 3) := by decide +kernel
theorem dX8_missed_44 : decode cX8_missed 44 = .ok (.iinc 3 1, 3) := by decide +kernel
theorem dX8_missed_47 : decode cX8_missed 47 = .ok (.goto (-32), 3) := by decide +kernel
theorem dX8_missed_50 : decode cX8_missed 50 = .ok (.bipush (-5), 2) := by decide +kernel
theorem dX8_missed_52 : decode cX8_missed 52 = .ok (.ireturn, 1) := by decide +kernel
set_option maxRecDepth 20000 in
theorem ggX8_missed_X8_tries : GoodIn wsX8_missed wsX8_tries := goodIn_r _ [7, 1, 8, 9, 10, 11, 6, 12, 13, 14, 15, 16, 17, 18, 19, 20, 21, 22, 23, 24, 25, 26, 27, 28, 29, 30, 2, 31, 32, 33, 34, 35, 36, 37, 38, 39, 40, 41, 42, 43, 44, 45, 46, 47, 48, 49, 50, 51, 52, 53, 54, 55, 56, 57, 58, 59, 60, 61, 62, 63, 64, 65, 66, 67, 68, 69, 70] (by decide +kernel) (by decide +kernel)
set_option maxRecDepth 20000 in
theorem gX8_missed_X8_tries : GoodIn wsX8_missed (wsV RX8 206 RX8 yX8_tries wsX8_tries) := goodIn_app (goodIn_of _ (by decide +kernel)) ggX8_missed_X8_tries
theorem iX8_missed_8 : ∀ w ∈ u_ws RX8 TX8 25, w ∈ wsX8_missed := fun w h => List.mem_cons_of_mem _ (List.mem_append_right _ (h))
set_option maxHeartbeats 4000000 in
set_option maxRecDepth 100000 in
theorem w_X8_missed_L15 {p : Program} {l : Launch} {e : Env} {s : State} {m : MethodId} {args : Array Value} {below : List Frame} {meth : Method} {c : Code} {E : EE} {g : GG} {ad : Nat → Nat} (hg : gwf g) (X : CallFix p m c cX8_missed 4 s args wsX8_missed RX8) (K : Kn E s) (hr : meth.sig.returnType = (some .int)) (hlk : meth.locks = false) {Q : Int → Mm → Prop} : ∀ (n : Nat) (o0 : Nat) (x2 : Int) (x3 : Int) (M : Mm) (H : Heap) (locs : List Loc) (ls : Array Slot), gk g o0 = 8 → Rw E g ad M s.heap H locs → lv_has ls 4 [(0, .ref (ad o0)), (2, cI x2), (3, cI x3)] → p_X8_missed_L15 g n o0 x2 x3 M Q → W p l e rmX8_missed s m args below meth c H locs 0 0 (MQ below (QI E g ad Q) args s 0 0 (Rg g ad)) (F0 m 15 ls []) := by
  intro n
  induction n with
  | zero =>
    intro o0 x2 x3 M H locs ls k_o0 w hl h
    exact absurd h (by unfold p_X8_missed_L15; exact id)
  | succ n ih =>
    intro o0 x2 x3 M H locs ls k_o0 w hl h
    unfold p_X8_missed_L15 at h
    refine lv_iload_n X.1 X.2.1 dX8_missed_15 rfl (lv_at hl 2 rfl) ?_
    refine lv_aload_n X.1 X.2.1 dX8_missed_16 rfl (lv_at hl 0 rfl) ?_
    refine r_getr (N := 25) (T := TX8) X K w iX8_missed_8 k_o0 rfl (by decide) 0 (by decide) rfl rfl (List.mem_of_getElem? (i := 1) rfl) dX8_missed_17 ?_
    have k2 : gk g (o0 + 1) = 9 := gch hg k_o0 (by decide) 0 (by decide) rfl rfl
    refine r_bipush X dX8_missed_20 (by decide +kernel) ?_
    obtain ⟨b1, h⟩ := h
    refine r_iald X K w hg k2 (by decide) b1 dX8_missed_22 ?_
    obtain ⟨i0, i1, h1, h2⟩ := h
    refine r_icmp_ge (tgt := 50) X i0 i1 dX8_missed_23 (by decide) (fun cc => ?_) (fun cc => ?_)
    · have h := h1 cc
      refine r_bipush X dX8_missed_50 (by decide +kernel) ?_
      exact r_ireturn X hr hlk K w h dX8_missed_52
    · have h := h2 cc
      refine lv_aload_n X.1 X.2.1 dX8_missed_26 rfl (lv_at hl 0 rfl) ?_
      refine r_getr (N := 25) (T := TX8) X K w iX8_missed_8 k_o0 rfl (by decide) 8 (by decide) rfl rfl (List.mem_of_getElem? (i := 2) rfl) dX8_missed_27 ?_
      have k3 : gk g (o0 + 7) = 9 := gch hg k_o0 (by decide) 8 (by decide) rfl rfl
      refine lv_iload_n X.1 X.2.1 dX8_missed_30 rfl (lv_at hl 2 rfl) ?_
      obtain ⟨b0, b1, h⟩ := h
      refine r_iald X K w hg k3 b0 b1 dX8_missed_31 ?_
      obtain ⟨i0, h1, h2⟩ := h
      refine r_if_le (tgt := 44) X i0 dX8_missed_32 (by decide) (fun cc => ?_) (fun cc => ?_)
      · have h := h1 cc
        refine r_iinc (lv' := [(3, cI (x3 + 1)), (0, .ref (ad o0)), (2, cI x2)]) X hl (k := 2) rfl (by decide) dX8_missed_44 rfl (fun ls hl => ?_)
        refine lv_goto (tgt := 15) X.1 X.2.1 dX8_missed_47 (by decide) ?_
        exact ih o0 x2 (x3 + 1) M _ _ _ k_o0 w (lv_sub hl [1, 2, 0] rfl) h
      · have h := h2 cc
        refine lv_iload_n X.1 X.2.1 dX8_missed_35 rfl (lv_at hl 1 rfl) ?_
        obtain ⟨i0, h1, h2⟩ := h
        refine r_if_ne (tgt := 41) X i0 dX8_missed_36 (by decide) (fun cc => ?_) (fun cc => ?_)
        · have h := h1 cc
          refine r_iinc (lv' := [(2, cI (x2 + (-1))), (0, .ref (ad o0)), (3, cI x3)]) X hl (k := 1) rfl (by decide) dX8_missed_41 rfl (fun ls hl => ?_)
          refine r_iinc (lv' := [(3, cI (x3 + 1)), (2, cI (x2 + (-1))), (0, .ref (ad o0))]) X hl (k := 2) rfl (by decide) dX8_missed_44 rfl (fun ls hl => ?_)
          refine lv_goto (tgt := 15) X.1 X.2.1 dX8_missed_47 (by decide) ?_
          exact ih o0 (x2 + (-1)) (x3 + 1) M _ _ _ k_o0 w (lv_sub hl [2, 1, 0] rfl) h
        · have h := h2 cc
          refine lv_iload_n X.1 X.2.1 dX8_missed_39 rfl (lv_at hl 2 rfl) ?_
          exact r_ireturn X hr hlk K w h dX8_missed_40
set_option maxHeartbeats 4000000 in
set_option maxRecDepth 100000 in
theorem c_X8_missed {E : EE} {l : Launch} {g : GG} {ad : Nat → Nat} (hg : gwf g) {o0 : Nat} {x1 : Int} {M : Mm} {Q : Int → Mm → Prop} (k_o0 : gk g o0 = 8) (h : p_X8_missed g o0 x1 M Q) : Ct E l yX8_missed wsX8_missed rmX8_missed g ad [.ref (ad o0), cI x1] M (QI E g ad Q) := by
  refine ent (cc := cX8_missed) (maxL := 4) (ret := (some .int)) (own := RX8) (by decide +kernel) rfl rfl (Nat.le_of_ble_eq_true rfl) ?_
  intro p e s m below meth c ls X hr hlk K w hl
  have hl : lv_has ls 4 [(0, .ref (ad o0)), (1, cI x1)] := hl
  unfold p_X8_missed at h
  refine lv_iload_n X.1 X.2.1 dX8_missed_0 rfl (lv_at hl 1 rfl) ?_
  obtain ⟨i0, h1, h2⟩ := h
  refine r_if_ge (tgt := 7) X i0 dX8_missed_1 (by decide) (fun cc => ?_) (fun cc => ?_)
  · have h := h1 cc
    refine lv_aload_n X.1 X.2.1 dX8_missed_7 rfl (lv_at hl 0 rfl) ?_
    refine q_v (x_V (As := []) (rest := []) X K w (c_X8_tries hg k_o0 h) (cwV 0 X.2.2.2.2 gX8_missed_X8_tries rfl rfl rfl (by decide +kernel) ⟨Nat.le_of_ble_eq_true rfl, Nat.le_of_ble_eq_true rfl⟩) k_o0 (by decide) rfl rfl hl rfl (Nat.le_of_ble_eq_true rfl) dX8_missed_8 ⟨Nat.le_of_ble_eq_true rfl, Nat.le_of_ble_eq_true rfl⟩) w (fun M1 H locs h w => ?_)
    refine lv_iload_n X.1 X.2.1 dX8_missed_11 rfl (lv_at hl 1 rfl) ?_
    refine lv_istore_n (lv' := [(2, cI x1), (0, .ref (ad o0)), (1, cI x1)]) X.1 X.2.1 dX8_missed_12 rfl hl (by decide) rfl (fun ls hl => ?_)
    refine r_iconst X dX8_missed_13 ?_
    refine lv_istore_n (lv' := [(3, cI 0), (2, cI x1), (0, .ref (ad o0)), (1, cI x1)]) X.1 X.2.1 dX8_missed_14 rfl hl (by decide) rfl (fun ls hl => ?_)
    obtain ⟨n4, h⟩ := h
    exact w_X8_missed_L15 hg X K hr hlk n4 o0 x1 0 M1 _ _ _ k_o0 w (lv_sub hl [2, 1, 0] rfl) h
  · have h := h2 cc
    refine r_bipush X dX8_missed_4 (by decide +kernel) ?_
    exact r_ireturn X hr hlk K w h dX8_missed_6
theorem dX8_ifHands_0 : decode cX8_ifHands 0 = .ok (.iload_n 1, 1) := by decide +kernel
theorem dX8_ifHands_1 : decode cX8_ifHands 1 = .ok (.i2l, 1) := by decide +kernel
theorem dX8_ifHands_2 : decode cX8_ifHands 2 = .ok (.lconst 1, 1) := by decide +kernel
theorem dX8_ifHands_3 : decode cX8_ifHands 3 = .ok (.ldc2_w 112, 3) := by decide +kernel
theorem dX8_ifHands_6 : decode cX8_ifHands 6 = .ok (.invokestatic 69, 3) := by decide +kernel
theorem dX8_ifHands_9 : decode cX8_ifHands 9 = .ok (.ifCond .ne 6, 3) := by decide +kernel
theorem dX8_ifHands_12 : decode cX8_ifHands 12 = .ok (.bipush (-2), 2) := by decide +kernel
theorem dX8_ifHands_14 : decode cX8_ifHands 14 = .ok (.ireturn, 1) := by decide +kernel
theorem dX8_ifHands_15 : decode cX8_ifHands 15 = .ok (.aload_n 0, 1) := by decide +kernel
theorem dX8_ifHands_16 : decode cX8_ifHands 16 = .ok (.getfield 7, 3) := by decide +kernel
theorem dX8_ifHands_19 : decode cX8_ifHands 19 = .ok (.aload_n 0, 1) := by decide +kernel
theorem dX8_ifHands_20 : decode cX8_ifHands 20 = .ok (.getfield 16, 3) := by decide +kernel
theorem dX8_ifHands_23 : decode cX8_ifHands 23 = .ok (.invokestatic 61, 3) := by decide +kernel
theorem dX8_ifHands_26 : decode cX8_ifHands 26 = .ok (.aload_n 0, 1) := by decide +kernel
theorem dX8_ifHands_27 : decode cX8_ifHands 27 = .ok (.iload_n 1, 1) := by decide +kernel
theorem dX8_ifHands_28 : decode cX8_ifHands 28 = .ok (.invokevirtual 132, 3) := by decide +kernel
theorem dX8_ifHands_31 : decode cX8_ifHands 31 = .ok (.aload_n 0, 1) := by decide +kernel
theorem dX8_ifHands_32 : decode cX8_ifHands 32 = .ok (.invokevirtual 109, 3) := by decide +kernel
theorem dX8_ifHands_35 : decode cX8_ifHands 35 = .ok (.aload_n 0, 1) := by decide +kernel
theorem dX8_ifHands_36 : decode cX8_ifHands 36 = .ok (.getfield 16, 3) := by decide +kernel
theorem dX8_ifHands_39 : decode cX8_ifHands 39 = .ok (.aload_n 0, 1) := by decide +kernel
theorem dX8_ifHands_40 : decode cX8_ifHands 40 = .ok (.getfield 7, 3) := by decide +kernel
theorem dX8_ifHands_43 : decode cX8_ifHands 43 = .ok (.invokestatic 61, 3) := by decide +kernel
theorem dX8_ifHands_46 : decode cX8_ifHands 46 = .ok (.aload_n 0, 1) := by decide +kernel
theorem dX8_ifHands_47 : decode cX8_ifHands 47 = .ok (.getfield 102, 3) := by decide +kernel
theorem dX8_ifHands_50 : decode cX8_ifHands 50 = .ok (.ireturn, 1) := by decide +kernel
set_option maxRecDepth 20000 in
theorem ggX8_ifHands_X8_becomeHands : GoodIn wsX8_ifHands wsX8_becomeHands := goodIn_r _ [15, 2, 49, 50, 51, 52, 53, 54, 55, 56, 57, 58, 59, 60, 61, 62, 63, 64, 65, 66, 67, 68, 69, 70, 71, 72, 73] (by decide +kernel) (by decide +kernel)
set_option maxRecDepth 20000 in
theorem gX8_ifHands_X8_becomeHands : GoodIn wsX8_ifHands (wsV RX8 132 RX8 yX8_becomeHands wsX8_becomeHands) := goodIn_app (goodIn_of _ (by decide +kernel)) ggX8_ifHands_X8_becomeHands
set_option maxRecDepth 20000 in
theorem ggX8_ifHands_X8_copy : GoodIn wsX8_ifHands wsX8_copy := goodIn_r _ [11] (by decide +kernel) (by decide +kernel)
set_option maxRecDepth 20000 in
theorem gX8_ifHands_X8_copy : GoodIn wsX8_ifHands (va_wsS RX8 61 yX8_copy wsX8_copy) := goodIn_app (goodIn_of _ (by decide +kernel)) ggX8_ifHands_X8_copy
set_option maxRecDepth 20000 in
theorem ggX8_ifHands_X8_in : GoodIn wsX8_ifHands wsX8_in := goodIn_r _ [8] (by decide +kernel) (by decide +kernel)
set_option maxRecDepth 20000 in
theorem gX8_ifHands_X8_in : GoodIn wsX8_ifHands (va_wsS RX8 69 yX8_in wsX8_in) := goodIn_app (goodIn_of _ (by decide +kernel)) ggX8_ifHands_X8_in
set_option maxRecDepth 20000 in
theorem ggX8_ifHands_X8_plays : GoodIn wsX8_ifHands wsX8_plays := goodIn_r _ [19, 20, 4, 21, 22, 23, 24, 25, 2, 26, 27, 28, 7, 29, 30, 31, 32, 33, 34, 35, 36, 37, 38, 39, 40, 41, 42, 43, 44, 45, 46, 47, 48, 49, 50, 51, 52, 53, 54, 55, 56, 57, 58, 59, 60, 61, 62, 63, 64, 65, 66, 67, 68, 69, 70, 71, 72, 73] (by decide +kernel) (by decide +kernel)
set_option maxRecDepth 20000 in
theorem gX8_ifHands_X8_plays : GoodIn wsX8_ifHands (wsV RX8 109 RX8 yX8_plays wsX8_plays) := goodIn_app (goodIn_of _ (by decide +kernel)) ggX8_ifHands_X8_plays
theorem iX8_ifHands_8 : ∀ w ∈ u_ws RX8 TX8 25, w ∈ wsX8_ifHands := fun w h => List.mem_cons_of_mem _ (List.mem_append_right _ (h))
set_option maxHeartbeats 4000000 in
set_option maxRecDepth 100000 in
theorem c_X8_ifHands {E : EE} {l : Launch} {g : GG} {ad : Nat → Nat} (hg : gwf g) {o0 : Nat} {x1 : Int} {M : Mm} {Q : Int → Mm → Prop} (k_o0 : gk g o0 = 8) (h : p_X8_ifHands g o0 x1 M Q) : Ct E l yX8_ifHands wsX8_ifHands rmX8_ifHands g ad [.ref (ad o0), cI x1] M (QI E g ad Q) := by
  refine ent (cc := cX8_ifHands) (maxL := 2) (ret := (some .int)) (own := RX8) (by decide +kernel) rfl rfl (Nat.le_of_ble_eq_true rfl) ?_
  intro p e s m below meth c ls X hr hlk K w hl
  have hl : lv_has ls 2 [(0, .ref (ad o0)), (1, cI x1)] := hl
  unfold p_X8_ifHands at h
  refine lv_iload_n X.1 X.2.1 dX8_ifHands_0 rfl (lv_at hl 1 rfl) ?_
  obtain ⟨i0, h⟩ := h
  refine r_i2l X i0 dX8_ifHands_1 ?_
  refine r_lconst (v := 1) X dX8_ifHands_2 (by decide +kernel) ?_
  refine r_ldc2 (v := 4) X (List.mem_of_getElem? (i := 1) rfl) dX8_ifHands_3 ?_
  refine q_i (x_S (As := [cL x1, cL 1, cL 4]) (rest := []) X K w (c_X8_in hg h) (va_cwS 3 X.2.2.2.2 gX8_ifHands_X8_in rfl rfl rfl (by decide +kernel) ⟨Nat.le_of_ble_eq_true rfl, Nat.le_of_ble_eq_true rfl⟩) rfl hl rfl (Nat.le_of_ble_eq_true rfl) dX8_ifHands_6 ⟨Nat.le_of_ble_eq_true rfl, Nat.le_of_ble_eq_true rfl⟩) w (fun r2 M1 H locs h w => ?_)
  obtain ⟨i0, h1, h2⟩ := h
  refine r_if_ne (tgt := 15) X i0 dX8_ifHands_9 (by decide) (fun cc => ?_) (fun cc => ?_)
  · have h := h1 cc
    refine lv_aload_n X.1 X.2.1 dX8_ifHands_15 rfl (lv_at hl 0 rfl) ?_
    refine r_getr (N := 25) (T := TX8) X K w iX8_ifHands_8 k_o0 rfl (by decide) 0 (by decide) rfl rfl (List.mem_of_getElem? (i := 2) rfl) dX8_ifHands_16 ?_
    have k3 : gk g (o0 + 1) = 9 := gch hg k_o0 (by decide) 0 (by decide) rfl rfl
    refine lv_aload_n X.1 X.2.1 dX8_ifHands_19 rfl (lv_at hl 0 rfl) ?_
    refine r_getr (N := 25) (T := TX8) X K w iX8_ifHands_8 k_o0 rfl (by decide) 2 (by decide) rfl rfl (List.mem_of_getElem? (i := 3) rfl) dX8_ifHands_20 ?_
    have k4 : gk g (o0 + 3) = 9 := gch hg k_o0 (by decide) 2 (by decide) rfl rfl
    refine q_v (x_S (As := [.ref (ad (o0 + 1)), .ref (ad (o0 + 3))]) (rest := []) X K w (c_X8_copy hg k3 k4 h) (va_cwS 2 X.2.2.2.2 gX8_ifHands_X8_copy rfl rfl rfl (by decide +kernel) ⟨Nat.le_of_ble_eq_true rfl, Nat.le_of_ble_eq_true rfl⟩) rfl hl rfl (Nat.le_of_ble_eq_true rfl) dX8_ifHands_23 ⟨Nat.le_of_ble_eq_true rfl, Nat.le_of_ble_eq_true rfl⟩) w (fun M5 H locs h w => ?_)
    refine lv_aload_n X.1 X.2.1 dX8_ifHands_26 rfl (lv_at hl 0 rfl) ?_
    refine lv_iload_n X.1 X.2.1 dX8_ifHands_27 rfl (lv_at hl 1 rfl) ?_
    refine q_v (x_V (As := [cI x1]) (rest := []) X K w (c_X8_becomeHands hg k_o0 h) (cwV 1 X.2.2.2.2 gX8_ifHands_X8_becomeHands rfl rfl rfl (by decide +kernel) ⟨Nat.le_of_ble_eq_true rfl, Nat.le_of_ble_eq_true rfl⟩) k_o0 (by decide) rfl rfl hl rfl (Nat.le_of_ble_eq_true rfl) dX8_ifHands_28 ⟨Nat.le_of_ble_eq_true rfl, Nat.le_of_ble_eq_true rfl⟩) w (fun M6 H locs h w => ?_)
    refine lv_aload_n X.1 X.2.1 dX8_ifHands_31 rfl (lv_at hl 0 rfl) ?_
    refine q_v (x_V (As := []) (rest := []) X K w (c_X8_plays hg k_o0 h) (cwV 0 X.2.2.2.2 gX8_ifHands_X8_plays rfl rfl rfl (by decide +kernel) ⟨Nat.le_of_ble_eq_true rfl, Nat.le_of_ble_eq_true rfl⟩) k_o0 (by decide) rfl rfl hl rfl (Nat.le_of_ble_eq_true rfl) dX8_ifHands_32 ⟨Nat.le_of_ble_eq_true rfl, Nat.le_of_ble_eq_true rfl⟩) w (fun M7 H locs h w => ?_)
    refine lv_aload_n X.1 X.2.1 dX8_ifHands_35 rfl (lv_at hl 0 rfl) ?_
    refine r_getr (N := 25) (T := TX8) X K w iX8_ifHands_8 k_o0 rfl (by decide) 2 (by decide) rfl rfl (List.mem_of_getElem? (i := 3) rfl) dX8_ifHands_36 ?_
    have k8 : gk g (o0 + 3) = 9 := gch hg k_o0 (by decide) 2 (by decide) rfl rfl
    refine lv_aload_n X.1 X.2.1 dX8_ifHands_39 rfl (lv_at hl 0 rfl) ?_
    refine r_getr (N := 25) (T := TX8) X K w iX8_ifHands_8 k_o0 rfl (by decide) 0 (by decide) rfl rfl (List.mem_of_getElem? (i := 2) rfl) dX8_ifHands_40 ?_
    have k9 : gk g (o0 + 1) = 9 := gch hg k_o0 (by decide) 0 (by decide) rfl rfl
    refine q_v (x_S (As := [.ref (ad (o0 + 3)), .ref (ad (o0 + 1))]) (rest := []) X K w (c_X8_copy hg k8 k9 h) (va_cwS 2 X.2.2.2.2 gX8_ifHands_X8_copy rfl rfl rfl (by decide +kernel) ⟨Nat.le_of_ble_eq_true rfl, Nat.le_of_ble_eq_true rfl⟩) rfl hl rfl (Nat.le_of_ble_eq_true rfl) dX8_ifHands_43 ⟨Nat.le_of_ble_eq_true rfl, Nat.le_of_ble_eq_true rfl⟩) w (fun M10 H locs h w => ?_)
    refine lv_aload_n X.1 X.2.1 dX8_ifHands_46 rfl (lv_at hl 0 rfl) ?_
    refine r_geti (N := 25) (T := TX8) (kz := 17) X K w iX8_ifHands_8 k_o0 rfl (by decide) 17 (by decide) rfl rfl rfl (List.mem_of_getElem? (i := 4) rfl) dX8_ifHands_47 ?_
    exact r_ireturn X hr hlk K w h dX8_ifHands_50
  · have h := h2 cc
    refine r_bipush X dX8_ifHands_12 (by decide +kernel) ?_
    exact r_ireturn X hr hlk K w h dX8_ifHands_14
theorem dX8_cleanTakes_0 : decode cX8_cleanTakes 0 = .ok (.aload_n 0, 1) := by decide +kernel
theorem dX8_cleanTakes_1 : decode cX8_cleanTakes 1 = .ok (.getfield 7, 3) := by decide +kernel
theorem dX8_cleanTakes_4 : decode cX8_cleanTakes 4 = .ok (.bipush 36, 2) := by decide +kernel
theorem dX8_cleanTakes_6 : decode cX8_cleanTakes 6 = .ok (.iaload, 1) := by decide +kernel
theorem dX8_cleanTakes_7 : decode cX8_cleanTakes 7 = .ok (.ifCond .ne 6, 3) := by decide +kernel
theorem dX8_cleanTakes_10 : decode cX8_cleanTakes 10 = .ok (.bipush (-4), 2) := by decide +kernel
theorem dX8_cleanTakes_12 : decode cX8_cleanTakes 12 = .ok (.ireturn, 1) := by decide +kernel
theorem dX8_cleanTakes_13 : decode cX8_cleanTakes 13 = .ok (.aload_n 0, 1) := by decide +kernel
theorem dX8_cleanTakes_14 : decode cX8_cleanTakes 14 = .ok (.getfield 7, 3) := by decide +kernel
theorem dX8_cleanTakes_17 : decode cX8_cleanTakes 17 = .ok (.aload_n 0, 1) := by decide +kernel
theorem dX8_cleanTakes_18 : decode cX8_cleanTakes 18 = .ok (.getfield 16, 3) := by decide +kernel
theorem dX8_cleanTakes_21 : decode cX8_cleanTakes 21 = .ok (.invokestatic 61, 3) := by decide +kernel
theorem dX8_cleanTakes_24 : decode cX8_cleanTakes 24 = .ok (.iconst 0, 1) := by decide +kernel
theorem dX8_cleanTakes_25 : decode cX8_cleanTakes 25 = .ok (.istore_n 1, 1) := by decide +kernel
theorem dX8_cleanTakes_26 : decode cX8_cleanTakes 26 = .ok (.iconst 1, 1) := by decide +kernel
theorem dX8_cleanTakes_27 : decode cX8_cleanTakes 27 = .ok (.istore_n 2, 1) := by decide +kernel
theorem dX8_cleanTakes_28 : decode cX8_cleanTakes 28 = .ok (.iload_n 2, 1) := by decide +kernel
theorem dX8_cleanTakes_29 : decode cX8_cleanTakes 29 = .ok (.ifCond .eq 41, 3) := by decide +kernel
theorem dX8_cleanTakes_32 : decode cX8_cleanTakes 32 = .ok (.iload_n 1, 1) := by decide +kernel
theorem dX8_cleanTakes_33 : decode cX8_cleanTakes 33 = .ok (.bipush 30, 2) := by decide +kernel
theorem dX8_cleanTakes_35 : decode cX8_cleanTakes 35 = .ok (.if_icmp .ge 35, 3) := by decide +kernel
theorem dX8_cleanTakes_38 : decode cX8_cleanTakes 38 = .ok (.aload_n 0, 1) := by decide +kernel
theorem dX8_cleanTakes_39 : decode cX8_cleanTakes 39 = .ok (.invokevirtual 109, 3) := by decide +kernel
theorem dX8_cleanTakes_42 : decode cX8_cleanTakes 42 = .ok (.aload_n 0, 1) := by decide +kernel
theorem dX8_cleanTakes_43 : decode cX8_cleanTakes 43 = .ok (.getfield 99, 3) := by decide +kernel
theorem dX8_cleanTakes_46 : decode cX8_cleanTakes 46 = .ok (.ifCond .ne 7, 3) := by decide +kernel
theorem dX8_cleanTakes_49 : decode cX8_cleanTakes 49 = .ok (.iconst 1, 1) := by decide +kernel
theorem dX8_cleanTakes_50 : decode cX8_cleanTakes 50 = .ok (.goto 4, 3) := by decide +kernel
theorem dX8_cleanTakes_53 : decode cX8_cleanTakes 53 = .ok (.iconst 0, 1) := by decide +kernel
theorem dX8_cleanTakes_54 : decode cX8_cleanTakes 54 = .ok (.istore_n 2, 1) := by decide +kernel
theorem dX8_cleanTakes_55 : decode cX8_cleanTakes 55 = .ok (.iload_n 1, 1) := by decide +kernel
theorem dX8_cleanTakes_56 : decode cX8_cleanTakes 56 = .ok (.iload_n 2, 1) := by decide +kernel
theorem dX8_cleanTakes_57 : decode cX8_cleanTakes 57 = .ok (.ifCond .eq 7, 3) := by decide +kernel
theorem dX8_cleanTakes_60 : decode cX8_cleanTakes 60 = .ok (.iconst 1, 1) := by decide +kernel
theorem dX8_cleanTakes_61 : decode cX8_cleanTakes 61 = .ok (.goto 4, 3) := by decide +kernel
theorem dX8_cleanTakes_64 : decode cX8_cleanTakes 64 = .ok (.iconst 0, 1) := by decide +kernel
theorem dX8_cleanTakes_65 : decode cX8_cleanTakes 65 = .ok (.iadd, 1) := by decide +kernel
theorem dX8_cleanTakes_66 : decode cX8_cleanTakes 66 = .ok (.istore_n 1, 1) := by decide +kernel
theorem dX8_cleanTakes_67 : decode cX8_cleanTakes 67 = .ok (.goto (-39), 3) := by decide +kernel
theorem dX8_cleanTakes_70 : decode cX8_cleanTakes 70 = .ok (.aload_n 0, 1) := by decide +kernel
theorem dX8_cleanTakes_71 : decode cX8_cleanTakes 71 = .ok (.getfield 16, 3) := by decide +kernel
theorem dX8_cleanTakes_74 : decode cX8_cleanTakes 74 = .ok (.aload_n 0, 1) := by decide +kernel
theorem dX8_cleanTakes_75 : decode cX8_cleanTakes 75 = .ok (.getfield 7, 3) := by decide +kernel
theorem dX8_cleanTakes_78 : decode cX8_cleanTakes 78 = .ok (.invokestatic 61, 3) := by decide +kernel
theorem dX8_cleanTakes_81 : decode cX8_cleanTakes 81 = .ok (.iload_n 1, 1) := by decide +kernel
theorem dX8_cleanTakes_82 : decode cX8_cleanTakes 82 = .ok (.ireturn, 1) := by decide +kernel
set_option maxRecDepth 20000 in
theorem ggX8_cleanTakes_X8_copy : GoodIn wsX8_cleanTakes wsX8_copy := goodIn_r _ [7] (by decide +kernel) (by decide +kernel)
set_option maxRecDepth 20000 in
theorem gX8_cleanTakes_X8_copy : GoodIn wsX8_cleanTakes (va_wsS RX8 61 yX8_copy wsX8_copy) := goodIn_app (goodIn_of _ (by decide +kernel)) ggX8_cleanTakes_X8_copy
set_option maxRecDepth 20000 in
theorem ggX8_cleanTakes_X8_plays : GoodIn wsX8_cleanTakes wsX8_plays := goodIn_r _ [11, 3, 12, 13, 14, 15, 16, 17, 1, 18, 19, 20, 6, 21, 22, 23, 24, 25, 26, 27, 28, 29, 30, 31, 32, 33, 34, 35, 36, 37, 38, 39, 40, 41, 42, 43, 44, 45, 46, 47, 48, 49, 50, 51, 52, 53, 54, 55, 56, 57, 58, 59, 60, 61, 62, 63, 64, 65] (by decide +kernel) (by decide +kernel)
set_option maxRecDepth 20000 in
theorem gX8_cleanTakes_X8_plays : GoodIn wsX8_cleanTakes (wsV RX8 109 RX8 yX8_plays wsX8_plays) := goodIn_app (goodIn_of _ (by decide +kernel)) ggX8_cleanTakes_X8_plays
theorem iX8_cleanTakes_8 : ∀ w ∈ u_ws RX8 TX8 25, w ∈ wsX8_cleanTakes := fun w h => List.mem_cons_of_mem _ (List.mem_append_right _ (h))
set_option maxHeartbeats 4000000 in
set_option maxRecDepth 100000 in
theorem w_X8_cleanTakes_J70 {p : Program} {l : Launch} {e : Env} {s : State} {m : MethodId} {args : Array Value} {below : List Frame} {meth : Method} {c : Code} {E : EE} {g : GG} {ad : Nat → Nat} (hg : gwf g) (X : CallFix p m c cX8_cleanTakes 3 s args wsX8_cleanTakes RX8) (K : Kn E s) (hr : meth.sig.returnType = (some .int)) (hlk : meth.locks = false) {Q : Int → Mm → Prop} : ∀ (o0 : Nat) (x1 : Int) (M : Mm) (H : Heap) (locs : List Loc) (ls : Array Slot), gk g o0 = 8 → Rw E g ad M s.heap H locs → lv_has ls 3 [(0, .ref (ad o0)), (1, cI x1)] → p_X8_cleanTakes_J70 g o0 x1 M Q → W p l e rmX8_cleanTakes s m args below meth c H locs 0 0 (MQ below (QI E g ad Q) args s 0 0 (Rg g ad)) (F0 m 70 ls []) := by
  intro o0 x1 M H locs ls k_o0 w hl h
  unfold p_X8_cleanTakes_J70 at h
  refine lv_aload_n X.1 X.2.1 dX8_cleanTakes_70 rfl (lv_at hl 0 rfl) ?_
  refine r_getr (N := 25) (T := TX8) X K w iX8_cleanTakes_8 k_o0 rfl (by decide) 2 (by decide) rfl rfl (List.mem_of_getElem? (i := 2) rfl) dX8_cleanTakes_71 ?_
  have k5 : gk g (o0 + 3) = 9 := gch hg k_o0 (by decide) 2 (by decide) rfl rfl
  refine lv_aload_n X.1 X.2.1 dX8_cleanTakes_74 rfl (lv_at hl 0 rfl) ?_
  refine r_getr (N := 25) (T := TX8) X K w iX8_cleanTakes_8 k_o0 rfl (by decide) 0 (by decide) rfl rfl (List.mem_of_getElem? (i := 1) rfl) dX8_cleanTakes_75 ?_
  have k6 : gk g (o0 + 1) = 9 := gch hg k_o0 (by decide) 0 (by decide) rfl rfl
  refine q_v (x_S (As := [.ref (ad (o0 + 3)), .ref (ad (o0 + 1))]) (rest := []) X K w (c_X8_copy hg k5 k6 h) (va_cwS 2 X.2.2.2.2 gX8_cleanTakes_X8_copy rfl rfl rfl (by decide +kernel) ⟨Nat.le_of_ble_eq_true rfl, Nat.le_of_ble_eq_true rfl⟩) rfl hl rfl (Nat.le_of_ble_eq_true rfl) dX8_cleanTakes_78 ⟨Nat.le_of_ble_eq_true rfl, Nat.le_of_ble_eq_true rfl⟩) w (fun M7 H locs h w => ?_)
  refine lv_iload_n X.1 X.2.1 dX8_cleanTakes_81 rfl (lv_at hl 1 rfl) ?_
  exact r_ireturn X hr hlk K w h dX8_cleanTakes_82
set_option maxHeartbeats 4000000 in
set_option maxRecDepth 100000 in
theorem w_X8_cleanTakes_L28 {p : Program} {l : Launch} {e : Env} {s : State} {m : MethodId} {args : Array Value} {below : List Frame} {meth : Method} {c : Code} {E : EE} {g : GG} {ad : Nat → Nat} (hg : gwf g) (X : CallFix p m c cX8_cleanTakes 3 s args wsX8_cleanTakes RX8) (K : Kn E s) (hr : meth.sig.returnType = (some .int)) (hlk : meth.locks = false) {Q : Int → Mm → Prop} : ∀ (n : Nat) (o0 : Nat) (x1 : Int) (x2 : Int) (M : Mm) (H : Heap) (locs : List Loc) (ls : Array Slot), gk g o0 = 8 → Rw E g ad M s.heap H locs → lv_has ls 3 [(0, .ref (ad o0)), (1, cI x1), (2, cI x2)] → p_X8_cleanTakes_L28 g n o0 x1 x2 M Q → W p l e rmX8_cleanTakes s m args below meth c H locs 0 0 (MQ below (QI E g ad Q) args s 0 0 (Rg g ad)) (F0 m 28 ls []) := by
  intro n
  induction n with
  | zero =>
    intro o0 x1 x2 M H locs ls k_o0 w hl h
    exact absurd h (by unfold p_X8_cleanTakes_L28; exact id)
  | succ n ih =>
    intro o0 x1 x2 M H locs ls k_o0 w hl h
    unfold p_X8_cleanTakes_L28 at h
    refine lv_iload_n X.1 X.2.1 dX8_cleanTakes_28 rfl (lv_at hl 2 rfl) ?_
    obtain ⟨i0, h1, h2⟩ := h
    refine r_if_eq (tgt := 70) X i0 dX8_cleanTakes_29 (by decide) (fun cc => ?_) (fun cc => ?_)
    · have h := h1 cc
      exact w_X8_cleanTakes_J70 hg X K hr hlk o0 x1 M _ _ _ k_o0 w (lv_sub hl [0, 1] rfl) h
    · have h := h2 cc
      refine lv_iload_n X.1 X.2.1 dX8_cleanTakes_32 rfl (lv_at hl 1 rfl) ?_
      refine r_bipush X dX8_cleanTakes_33 (by decide +kernel) ?_
      obtain ⟨i0, h1, h2⟩ := h
      refine r_icmp_ge (tgt := 70) X i0 ⟨by decide, by decide⟩ dX8_cleanTakes_35 (by decide) (fun cc => ?_) (fun cc => ?_)
      · have h := h1 cc
        exact w_X8_cleanTakes_J70 hg X K hr hlk o0 x1 M _ _ _ k_o0 w (lv_sub hl [0, 1] rfl) h
      · have h := h2 cc
        refine lv_aload_n X.1 X.2.1 dX8_cleanTakes_38 rfl (lv_at hl 0 rfl) ?_
        refine q_v (x_V (As := []) (rest := []) X K w (c_X8_plays hg k_o0 h) (cwV 0 X.2.2.2.2 gX8_cleanTakes_X8_plays rfl rfl rfl (by decide +kernel) ⟨Nat.le_of_ble_eq_true rfl, Nat.le_of_ble_eq_true rfl⟩) k_o0 (by decide) rfl rfl hl rfl (Nat.le_of_ble_eq_true rfl) dX8_cleanTakes_39 ⟨Nat.le_of_ble_eq_true rfl, Nat.le_of_ble_eq_true rfl⟩) w (fun M8 H locs h w => ?_)
        refine lv_aload_n X.1 X.2.1 dX8_cleanTakes_42 rfl (lv_at hl 0 rfl) ?_
        refine r_geti (N := 25) (T := TX8) (kz := 16) X K w iX8_cleanTakes_8 k_o0 rfl (by decide) 16 (by decide) rfl rfl rfl (List.mem_of_getElem? (i := 3) rfl) dX8_cleanTakes_43 ?_
        obtain ⟨i0, h1, h2⟩ := h
        refine r_if_ne (tgt := 53) X i0 dX8_cleanTakes_46 (by decide) (fun cc => ?_) (fun cc => ?_)
        · have h := h1 cc
          refine r_iconst X dX8_cleanTakes_53 ?_
          refine lv_istore_n (lv' := [(2, cI 0), (0, .ref (ad o0)), (1, cI x1)]) X.1 X.2.1 dX8_cleanTakes_54 rfl hl (by decide) rfl (fun ls hl => ?_)
          refine lv_iload_n X.1 X.2.1 dX8_cleanTakes_55 rfl (lv_at hl 2 rfl) ?_
          refine lv_iload_n X.1 X.2.1 dX8_cleanTakes_56 rfl (lv_at hl 0 rfl) ?_
          refine r_if_eq (tgt := 64) X ⟨by decide, by decide⟩ dX8_cleanTakes_57 (by decide) (fun cc => ?_) (fun cc => absurd cc (by decide))
          refine r_iconst X dX8_cleanTakes_64 ?_
          refine r_iadd X dX8_cleanTakes_65 ?_
          refine lv_istore_n (lv' := [(1, cI (x1 + 0)), (2, cI 0), (0, .ref (ad o0))]) X.1 X.2.1 dX8_cleanTakes_66 rfl hl (by decide) rfl (fun ls hl => ?_)
          refine lv_goto (tgt := 28) X.1 X.2.1 dX8_cleanTakes_67 (by decide) ?_
          exact ih o0 (x1 + 0) 0 M8 _ _ _ k_o0 w (lv_sub hl [2, 0, 1] rfl) h
        · have h := h2 cc
          refine r_iconst X dX8_cleanTakes_49 ?_
          refine lv_goto (tgt := 54) X.1 X.2.1 dX8_cleanTakes_50 (by decide) ?_
          refine lv_istore_n (lv' := [(2, cI 1), (0, .ref (ad o0)), (1, cI x1)]) X.1 X.2.1 dX8_cleanTakes_54 rfl hl (by decide) rfl (fun ls hl => ?_)
          refine lv_iload_n X.1 X.2.1 dX8_cleanTakes_55 rfl (lv_at hl 2 rfl) ?_
          refine lv_iload_n X.1 X.2.1 dX8_cleanTakes_56 rfl (lv_at hl 0 rfl) ?_
          refine r_if_eq (tgt := 64) X ⟨by decide, by decide⟩ dX8_cleanTakes_57 (by decide) (fun cc => absurd cc (by decide)) (fun cc => ?_)
          refine r_iconst X dX8_cleanTakes_60 ?_
          refine lv_goto (tgt := 65) X.1 X.2.1 dX8_cleanTakes_61 (by decide) ?_
          refine r_iadd X dX8_cleanTakes_65 ?_
          refine lv_istore_n (lv' := [(1, cI (x1 + 1)), (2, cI 1), (0, .ref (ad o0))]) X.1 X.2.1 dX8_cleanTakes_66 rfl hl (by decide) rfl (fun ls hl => ?_)
          refine lv_goto (tgt := 28) X.1 X.2.1 dX8_cleanTakes_67 (by decide) ?_
          exact ih o0 (x1 + 1) 1 M8 _ _ _ k_o0 w (lv_sub hl [2, 0, 1] rfl) h
set_option maxHeartbeats 4000000 in
set_option maxRecDepth 100000 in
theorem c_X8_cleanTakes {E : EE} {l : Launch} {g : GG} {ad : Nat → Nat} (hg : gwf g) {o0 : Nat} {M : Mm} {Q : Int → Mm → Prop} (k_o0 : gk g o0 = 8) (h : p_X8_cleanTakes g o0 M Q) : Ct E l yX8_cleanTakes wsX8_cleanTakes rmX8_cleanTakes g ad [.ref (ad o0)] M (QI E g ad Q) := by
  refine ent (cc := cX8_cleanTakes) (maxL := 3) (ret := (some .int)) (own := RX8) (by decide +kernel) rfl rfl (Nat.le_of_ble_eq_true rfl) ?_
  intro p e s m below meth c ls X hr hlk K w hl
  have hl : lv_has ls 3 [(0, .ref (ad o0))] := hl
  unfold p_X8_cleanTakes at h
  refine lv_aload_n X.1 X.2.1 dX8_cleanTakes_0 rfl (lv_at hl 0 rfl) ?_
  refine r_getr (N := 25) (T := TX8) X K w iX8_cleanTakes_8 k_o0 rfl (by decide) 0 (by decide) rfl rfl (List.mem_of_getElem? (i := 1) rfl) dX8_cleanTakes_1 ?_
  have k1 : gk g (o0 + 1) = 9 := gch hg k_o0 (by decide) 0 (by decide) rfl rfl
  refine r_bipush X dX8_cleanTakes_4 (by decide +kernel) ?_
  obtain ⟨b1, h⟩ := h
  refine r_iald X K w hg k1 (by decide) b1 dX8_cleanTakes_6 ?_
  obtain ⟨i0, h1, h2⟩ := h
  refine r_if_ne (tgt := 13) X i0 dX8_cleanTakes_7 (by decide) (fun cc => ?_) (fun cc => ?_)
  · have h := h1 cc
    refine lv_aload_n X.1 X.2.1 dX8_cleanTakes_13 rfl (lv_at hl 0 rfl) ?_
    refine r_getr (N := 25) (T := TX8) X K w iX8_cleanTakes_8 k_o0 rfl (by decide) 0 (by decide) rfl rfl (List.mem_of_getElem? (i := 1) rfl) dX8_cleanTakes_14 ?_
    have k2 : gk g (o0 + 1) = 9 := gch hg k_o0 (by decide) 0 (by decide) rfl rfl
    refine lv_aload_n X.1 X.2.1 dX8_cleanTakes_17 rfl (lv_at hl 0 rfl) ?_
    refine r_getr (N := 25) (T := TX8) X K w iX8_cleanTakes_8 k_o0 rfl (by decide) 2 (by decide) rfl rfl (List.mem_of_getElem? (i := 2) rfl) dX8_cleanTakes_18 ?_
    have k3 : gk g (o0 + 3) = 9 := gch hg k_o0 (by decide) 2 (by decide) rfl rfl
    refine q_v (x_S (As := [.ref (ad (o0 + 1)), .ref (ad (o0 + 3))]) (rest := []) X K w (c_X8_copy hg k2 k3 h) (va_cwS 2 X.2.2.2.2 gX8_cleanTakes_X8_copy rfl rfl rfl (by decide +kernel) ⟨Nat.le_of_ble_eq_true rfl, Nat.le_of_ble_eq_true rfl⟩) rfl hl rfl (Nat.le_of_ble_eq_true rfl) dX8_cleanTakes_21 ⟨Nat.le_of_ble_eq_true rfl, Nat.le_of_ble_eq_true rfl⟩) w (fun M4 H locs h w => ?_)
    refine r_iconst X dX8_cleanTakes_24 ?_
    refine lv_istore_n (lv' := [(1, cI 0), (0, .ref (ad o0))]) X.1 X.2.1 dX8_cleanTakes_25 rfl hl (by decide) rfl (fun ls hl => ?_)
    refine r_iconst X dX8_cleanTakes_26 ?_
    refine lv_istore_n (lv' := [(2, cI 1), (1, cI 0), (0, .ref (ad o0))]) X.1 X.2.1 dX8_cleanTakes_27 rfl hl (by decide) rfl (fun ls hl => ?_)
    obtain ⟨n9, h⟩ := h
    exact w_X8_cleanTakes_L28 hg X K hr hlk n9 o0 0 1 M4 _ _ _ k_o0 w (lv_sub hl [2, 1, 0] rfl) h
  · have h := h2 cc
    refine r_bipush X dX8_cleanTakes_10 (by decide +kernel) ?_
    exact r_ireturn X hr hlk K w h dX8_cleanTakes_12
theorem dX8_wouldMiss_0 : decode cX8_wouldMiss 0 = .ok (.aload_n 0, 1) := by decide +kernel
theorem dX8_wouldMiss_1 : decode cX8_wouldMiss 1 = .ok (.invokevirtual 206, 3) := by decide +kernel
theorem dX8_wouldMiss_4 : decode cX8_wouldMiss 4 = .ok (.iload_n 1, 1) := by decide +kernel
theorem dX8_wouldMiss_5 : decode cX8_wouldMiss 5 = .ok (.ifCond .eq 10, 3) := by decide +kernel
theorem dX8_wouldMiss_8 : decode cX8_wouldMiss 8 = .ok (.aload_n 0, 1) := by decide +kernel
theorem dX8_wouldMiss_9 : decode cX8_wouldMiss 9 = .ok (.getfield 102, 3) := by decide +kernel
theorem dX8_wouldMiss_12 : decode cX8_wouldMiss 12 = .ok (.goto 7, 3) := by decide +kernel
theorem dX8_wouldMiss_15 : decode cX8_wouldMiss 15 = .ok (.aload_n 0, 1) := by decide +kernel
theorem dX8_wouldMiss_16 : decode cX8_wouldMiss 16 = .ok (.getfield 99, 3) := by decide +kernel
theorem dX8_wouldMiss_19 : decode cX8_wouldMiss 19 = .ok (.ireturn, 1) := by decide +kernel
set_option maxRecDepth 20000 in
theorem ggX8_wouldMiss_X8_tries : GoodIn wsX8_wouldMiss wsX8_tries := goodIn_r _ [7, 8, 9, 10, 11, 12, 6, 13, 14, 15, 16, 17, 2, 1, 18, 19, 20, 21, 22, 23, 24, 25, 26, 27, 28, 29, 30, 31, 32, 33, 34, 35, 36, 37, 38, 39, 40, 41, 42, 43, 44, 45, 46, 47, 48, 49, 50, 51, 52, 53, 54, 55, 56, 57, 58, 59, 60, 61, 62, 63, 64, 65, 66, 67, 68, 69, 70] (by decide +kernel) (by decide +kernel)
set_option maxRecDepth 20000 in
theorem gX8_wouldMiss_X8_tries : GoodIn wsX8_wouldMiss (wsV RX8 206 RX8 yX8_tries wsX8_tries) := goodIn_app (goodIn_of _ (by decide +kernel)) ggX8_wouldMiss_X8_tries
theorem iX8_wouldMiss_8 : ∀ w ∈ u_ws RX8 TX8 25, w ∈ wsX8_wouldMiss := fun w h => List.mem_cons_of_mem _ (List.mem_append_right _ (h))
set_option maxHeartbeats 4000000 in
set_option maxRecDepth 100000 in
theorem c_X8_wouldMiss {E : EE} {l : Launch} {g : GG} {ad : Nat → Nat} (hg : gwf g) {o0 : Nat} {x1 : Int} {M : Mm} {Q : Int → Mm → Prop} (k_o0 : gk g o0 = 8) (h : p_X8_wouldMiss g o0 x1 M Q) : Ct E l yX8_wouldMiss wsX8_wouldMiss rmX8_wouldMiss g ad [.ref (ad o0), cI x1] M (QI E g ad Q) := by
  refine ent (cc := cX8_wouldMiss) (maxL := 2) (ret := (some .int)) (own := RX8) (by decide +kernel) rfl rfl (Nat.le_of_ble_eq_true rfl) ?_
  intro p e s m below meth c ls X hr hlk K w hl
  have hl : lv_has ls 2 [(0, .ref (ad o0)), (1, cI x1)] := hl
  unfold p_X8_wouldMiss at h
  refine lv_aload_n X.1 X.2.1 dX8_wouldMiss_0 rfl (lv_at hl 0 rfl) ?_
  refine q_v (x_V (As := []) (rest := []) X K w (c_X8_tries hg k_o0 h) (cwV 0 X.2.2.2.2 gX8_wouldMiss_X8_tries rfl rfl rfl (by decide +kernel) ⟨Nat.le_of_ble_eq_true rfl, Nat.le_of_ble_eq_true rfl⟩) k_o0 (by decide) rfl rfl hl rfl (Nat.le_of_ble_eq_true rfl) dX8_wouldMiss_1 ⟨Nat.le_of_ble_eq_true rfl, Nat.le_of_ble_eq_true rfl⟩) w (fun M1 H locs h w => ?_)
  refine lv_iload_n X.1 X.2.1 dX8_wouldMiss_4 rfl (lv_at hl 1 rfl) ?_
  obtain ⟨i0, h1, h2⟩ := h
  refine r_if_eq (tgt := 15) X i0 dX8_wouldMiss_5 (by decide) (fun cc => ?_) (fun cc => ?_)
  · have h := h1 cc
    refine lv_aload_n X.1 X.2.1 dX8_wouldMiss_15 rfl (lv_at hl 0 rfl) ?_
    refine r_geti (N := 25) (T := TX8) (kz := 16) X K w iX8_wouldMiss_8 k_o0 rfl (by decide) 16 (by decide) rfl rfl rfl (List.mem_of_getElem? (i := 2) rfl) dX8_wouldMiss_16 ?_
    exact r_ireturn X hr hlk K w h dX8_wouldMiss_19
  · have h := h2 cc
    refine lv_aload_n X.1 X.2.1 dX8_wouldMiss_8 rfl (lv_at hl 0 rfl) ?_
    refine r_geti (N := 25) (T := TX8) (kz := 17) X K w iX8_wouldMiss_8 k_o0 rfl (by decide) 17 (by decide) rfl rfl rfl (List.mem_of_getElem? (i := 1) rfl) dX8_wouldMiss_9 ?_
    refine lv_goto (tgt := 19) X.1 X.2.1 dX8_wouldMiss_12 (by decide) ?_
    exact r_ireturn X hr hlk K w h dX8_wouldMiss_19
theorem dX8_allCharges_0 : decode cX8_allCharges 0 = .ok (.iconst 0, 1) := by decide +kernel
theorem dX8_allCharges_1 : decode cX8_allCharges 1 = .ok (.istore_n 1, 1) := by decide +kernel
theorem dX8_allCharges_2 : decode cX8_allCharges 2 = .ok (.iconst 0, 1) := by decide +kernel
theorem dX8_allCharges_3 : decode cX8_allCharges 3 = .ok (.istore_n 2, 1) := by decide +kernel
theorem dX8_allCharges_4 : decode cX8_allCharges 4 = .ok (.iload_n 2, 1) := by decide +kernel
theorem dX8_allCharges_5 : decode cX8_allCharges 5 = .ok (.bipush 10, 2) := by decide +kernel
theorem dX8_allCharges_7 : decode cX8_allCharges 7 = .ok (.if_icmp .ge 21, 3) := by decide +kernel
theorem dX8_allCharges_10 : decode cX8_allCharges 10 = .ok (.iload_n 1, 1) := by decide +kernel
theorem dX8_allCharges_11 : decode cX8_allCharges 11 = .ok (.aload_n 0, 1) := by decide +kernel
theorem dX8_allCharges_12 : decode cX8_allCharges 12 = .ok (.getfield 7, 3) := by decide +kernel
theorem dX8_allCharges_15 : decode cX8_allCharges 15 = .ok (.bipush 10, 2) := by decide +kernel
theorem dX8_allCharges_17 : decode cX8_allCharges 17 = .ok (.iload_n 2, 1) := by decide +kernel
theorem dX8_allCharges_18 : decode cX8_allCharges 18 = .ok (.iadd, 1) := by decide +kernel
theorem dX8_allCharges_19 : decode cX8_allCharges 19 = .ok (.iaload, 1) := by decide +kernel
theorem dX8_allCharges_20 : decode cX8_allCharges 20 = .ok (.iadd, 1) := by decide +kernel
theorem dX8_allCharges_21 : decode cX8_allCharges 21 = .ok (.istore_n 1, 1) := by decide +kernel
theorem dX8_allCharges_22 : decode cX8_allCharges 22 = .ok (.iinc 2 1, 3) := by decide +kernel
theorem dX8_allCharges_25 : decode cX8_allCharges 25 = .ok (.goto (-21), 3) := by decide +kernel
theorem dX8_allCharges_28 : decode cX8_allCharges 28 = .ok (.iload_n 1, 1) := by decide +kernel
theorem dX8_allCharges_29 : decode cX8_allCharges 29 = .ok (.ireturn, 1) := by decide +kernel
theorem iX8_allCharges_8 : ∀ w ∈ u_ws RX8 TX8 25, w ∈ wsX8_allCharges := fun w h => List.mem_cons_of_mem _ (List.mem_append_right _ (h))
set_option maxHeartbeats 4000000 in
set_option maxRecDepth 100000 in
theorem w_X8_allCharges_L4 {p : Program} {l : Launch} {e : Env} {s : State} {m : MethodId} {args : Array Value} {below : List Frame} {meth : Method} {c : Code} {E : EE} {g : GG} {ad : Nat → Nat} (hg : gwf g) (X : CallFix p m c cX8_allCharges 3 s args wsX8_allCharges RX8) (K : Kn E s) (hr : meth.sig.returnType = (some .int)) (hlk : meth.locks = false) {Q : Int → Mm → Prop} : ∀ (n : Nat) (o0 : Nat) (x1 : Int) (x2 : Int) (M : Mm) (H : Heap) (locs : List Loc) (ls : Array Slot), gk g o0 = 8 → Rw E g ad M s.heap H locs → lv_has ls 3 [(0, .ref (ad o0)), (1, cI x1), (2, cI x2)] → p_X8_allCharges_L4 g n o0 x1 x2 M Q → W p l e rmX8_allCharges s m args below meth c H locs 0 0 (MQ below (QI E g ad Q) args s 0 0 (Rg g ad)) (F0 m 4 ls []) := by
  intro n
  induction n with
  | zero =>
    intro o0 x1 x2 M H locs ls k_o0 w hl h
    exact absurd h (by unfold p_X8_allCharges_L4; exact id)
  | succ n ih =>
    intro o0 x1 x2 M H locs ls k_o0 w hl h
    unfold p_X8_allCharges_L4 at h
    refine lv_iload_n X.1 X.2.1 dX8_allCharges_4 rfl (lv_at hl 2 rfl) ?_
    refine r_bipush X dX8_allCharges_5 (by decide +kernel) ?_
    obtain ⟨i0, h1, h2⟩ := h
    refine r_icmp_ge (tgt := 28) X i0 ⟨by decide, by decide⟩ dX8_allCharges_7 (by decide) (fun cc => ?_) (fun cc => ?_)
    · have h := h1 cc
      refine lv_iload_n X.1 X.2.1 dX8_allCharges_28 rfl (lv_at hl 1 rfl) ?_
      exact r_ireturn X hr hlk K w h dX8_allCharges_29
    · have h := h2 cc
      refine lv_iload_n X.1 X.2.1 dX8_allCharges_10 rfl (lv_at hl 1 rfl) ?_
      refine lv_aload_n X.1 X.2.1 dX8_allCharges_11 rfl (lv_at hl 0 rfl) ?_
      refine r_getr (N := 25) (T := TX8) X K w iX8_allCharges_8 k_o0 rfl (by decide) 0 (by decide) rfl rfl (List.mem_of_getElem? (i := 1) rfl) dX8_allCharges_12 ?_
      have k1 : gk g (o0 + 1) = 9 := gch hg k_o0 (by decide) 0 (by decide) rfl rfl
      refine r_bipush X dX8_allCharges_15 (by decide +kernel) ?_
      refine lv_iload_n X.1 X.2.1 dX8_allCharges_17 rfl (lv_at hl 2 rfl) ?_
      refine r_iadd X dX8_allCharges_18 ?_
      obtain ⟨b0, b1, h⟩ := h
      refine r_iald X K w hg k1 b0 b1 dX8_allCharges_19 ?_
      refine r_iadd X dX8_allCharges_20 ?_
      refine lv_istore_n (lv' := [(1, cI (x1 + (M (o0 + 1) (10 + x2)))), (0, .ref (ad o0)), (2, cI x2)]) X.1 X.2.1 dX8_allCharges_21 rfl hl (by decide) rfl (fun ls hl => ?_)
      refine r_iinc (lv' := [(2, cI (x2 + 1)), (1, cI (x1 + (M (o0 + 1) (10 + x2)))), (0, .ref (ad o0))]) X hl (k := 2) rfl (by decide) dX8_allCharges_22 rfl (fun ls hl => ?_)
      refine lv_goto (tgt := 4) X.1 X.2.1 dX8_allCharges_25 (by decide) ?_
      exact ih o0 (x1 + (M (o0 + 1) (10 + x2))) (x2 + 1) M _ _ _ k_o0 w (lv_sub hl [2, 1, 0] rfl) h
set_option maxHeartbeats 4000000 in
set_option maxRecDepth 100000 in
theorem c_X8_allCharges {E : EE} {l : Launch} {g : GG} {ad : Nat → Nat} (hg : gwf g) {o0 : Nat} {M : Mm} {Q : Int → Mm → Prop} (k_o0 : gk g o0 = 8) (h : p_X8_allCharges g o0 M Q) : Ct E l yX8_allCharges wsX8_allCharges rmX8_allCharges g ad [.ref (ad o0)] M (QI E g ad Q) := by
  refine ent (cc := cX8_allCharges) (maxL := 3) (ret := (some .int)) (own := RX8) (by decide +kernel) rfl rfl (Nat.le_of_ble_eq_true rfl) ?_
  intro p e s m below meth c ls X hr hlk K w hl
  have hl : lv_has ls 3 [(0, .ref (ad o0))] := hl
  unfold p_X8_allCharges at h
  refine r_iconst X dX8_allCharges_0 ?_
  refine lv_istore_n (lv' := [(1, cI 0), (0, .ref (ad o0))]) X.1 X.2.1 dX8_allCharges_1 rfl hl (by decide) rfl (fun ls hl => ?_)
  refine r_iconst X dX8_allCharges_2 ?_
  refine lv_istore_n (lv' := [(2, cI 0), (1, cI 0), (0, .ref (ad o0))]) X.1 X.2.1 dX8_allCharges_3 rfl hl (by decide) rfl (fun ls hl => ?_)
  obtain ⟨n2, h⟩ := h
  exact w_X8_allCharges_L4 hg X K hr hlk n2 o0 0 0 M _ _ _ k_o0 w (lv_sub hl [2, 1, 0] rfl) h
theorem dX8_count_0 : decode cX8_count 0 = .ok (.iload_n 1, 1) := by decide +kernel
theorem dX8_count_1 : decode cX8_count 1 = .ok (.tableswitch 130 0 11 #[63, 71, 79, 87, 87, 87, 87, 99, 99, 115, 120, 125], 63) := by decide +kernel
theorem dX8_count_64 : decode cX8_count 64 = .ok (.aload_n 0, 1) := by decide +kernel
theorem dX8_count_65 : decode cX8_count 65 = .ok (.getfield 7, 3) := by decide +kernel
theorem dX8_count_68 : decode cX8_count 68 = .ok (.bipush 36, 2) := by decide +kernel
theorem dX8_count_70 : decode cX8_count 70 = .ok (.iaload, 1) := by decide +kernel
theorem dX8_count_71 : decode cX8_count 71 = .ok (.ireturn, 1) := by decide +kernel
theorem dX8_count_72 : decode cX8_count 72 = .ok (.aload_n 0, 1) := by decide +kernel
theorem dX8_count_73 : decode cX8_count 73 = .ok (.getfield 7, 3) := by decide +kernel
theorem dX8_count_76 : decode cX8_count 76 = .ok (.bipush 30, 2) := by decide +kernel
theorem dX8_count_78 : decode cX8_count 78 = .ok (.iaload, 1) := by decide +kernel
theorem dX8_count_79 : decode cX8_count 79 = .ok (.ireturn, 1) := by decide +kernel
theorem dX8_count_80 : decode cX8_count 80 = .ok (.aload_n 0, 1) := by decide +kernel
theorem dX8_count_81 : decode cX8_count 81 = .ok (.getfield 7, 3) := by decide +kernel
theorem dX8_count_84 : decode cX8_count 84 = .ok (.bipush 35, 2) := by decide +kernel
theorem dX8_count_86 : decode cX8_count 86 = .ok (.iaload, 1) := by decide +kernel
theorem dX8_count_87 : decode cX8_count 87 = .ok (.ireturn, 1) := by decide +kernel
theorem dX8_count_88 : decode cX8_count 88 = .ok (.aload_n 0, 1) := by decide +kernel
theorem dX8_count_89 : decode cX8_count 89 = .ok (.getfield 7, 3) := by decide +kernel
theorem dX8_count_92 : decode cX8_count 92 = .ok (.bipush 37, 2) := by decide +kernel
theorem dX8_count_94 : decode cX8_count 94 = .ok (.iload_n 1, 1) := by decide +kernel
theorem dX8_count_95 : decode cX8_count 95 = .ok (.iadd, 1) := by decide +kernel
theorem dX8_count_96 : decode cX8_count 96 = .ok (.iconst 3, 1) := by decide +kernel
theorem dX8_count_97 : decode cX8_count 97 = .ok (.isub, 1) := by decide +kernel
theorem dX8_count_98 : decode cX8_count 98 = .ok (.iaload, 1) := by decide +kernel
theorem dX8_count_99 : decode cX8_count 99 = .ok (.ireturn, 1) := by decide +kernel
theorem dX8_count_100 : decode cX8_count 100 = .ok (.aload_n 0, 1) := by decide +kernel
theorem dX8_count_101 : decode cX8_count 101 = .ok (.iload_n 1, 1) := by decide +kernel
theorem dX8_count_102 : decode cX8_count 102 = .ok (.bipush 8, 2) := by decide +kernel
theorem dX8_count_104 : decode cX8_count 104 = .ok (.if_icmp .ne 7, 3) := by decide +kernel
theorem dX8_count_107 : decode cX8_count 107 = .ok (.iconst 1, 1) := by decide +kernel
theorem dX8_count_108 : decode cX8_count 108 = .ok (.goto 4, 3) := by decide +kernel
theorem dX8_count_111 : decode cX8_count 111 = .ok (.iconst 0, 1) := by decide +kernel
theorem dX8_count_112 : decode cX8_count 112 = .ok (.invokevirtual 228, 3) := by decide +kernel
theorem dX8_count_115 : decode cX8_count 115 = .ok (.ireturn, 1) := by decide +kernel
theorem dX8_count_116 : decode cX8_count 116 = .ok (.aload_n 0, 1) := by decide +kernel
theorem dX8_count_117 : decode cX8_count 117 = .ok (.invokevirtual 232, 3) := by decide +kernel
theorem dX8_count_120 : decode cX8_count 120 = .ok (.ireturn, 1) := by decide +kernel
theorem dX8_count_121 : decode cX8_count 121 = .ok (.aload_n 0, 1) := by decide +kernel
theorem dX8_count_122 : decode cX8_count 122 = .ok (.getfield 65, 3) := by decide +kernel
theorem dX8_count_125 : decode cX8_count 125 = .ok (.ireturn, 1) := by decide +kernel
theorem dX8_count_126 : decode cX8_count 126 = .ok (.aload_n 0, 1) := by decide +kernel
theorem dX8_count_127 : decode cX8_count 127 = .ok (.getfield 140, 3) := by decide +kernel
theorem dX8_count_130 : decode cX8_count 130 = .ok (.ireturn, 1) := by decide +kernel
theorem dX8_count_131 : decode cX8_count 131 = .ok (.bipush (-2), 2) := by decide +kernel
theorem dX8_count_133 : decode cX8_count 133 = .ok (.ireturn, 1) := by decide +kernel
set_option maxRecDepth 20000 in
theorem ggX8_count_X8_allCharges : GoodIn wsX8_count wsX8_allCharges := goodIn_r _ [55, 1, 56, 57, 58, 59, 60, 61, 62, 63, 64, 65, 66, 67, 68, 69, 70, 71, 72, 73, 74, 75, 76, 77, 78, 79, 80] (by decide +kernel) (by decide +kernel)
set_option maxRecDepth 20000 in
theorem gX8_count_X8_allCharges : GoodIn wsX8_count (wsV RX8 232 RX8 yX8_allCharges wsX8_allCharges) := goodIn_app (goodIn_of _ (by decide +kernel)) ggX8_count_X8_allCharges
set_option maxRecDepth 20000 in
theorem ggX8_count_X8_wouldMiss : GoodIn wsX8_count wsX8_wouldMiss := goodIn_r _ [8, 9, 10, 11, 12, 13, 7, 14, 1, 15, 16, 17, 18, 19, 20, 21, 22, 23, 24, 25, 26, 27, 28, 29, 30, 31, 32, 33, 34, 35, 36, 37, 38, 39, 40, 41, 42, 43, 44, 45, 46, 47, 48, 49, 50, 51, 56, 57, 58, 59, 60, 61, 62, 63, 64, 65, 66, 67, 68, 69, 70, 71, 72, 73, 74, 75, 76, 77, 78, 79, 80] (by decide +kernel) (by decide +kernel)
set_option maxRecDepth 20000 in
theorem gX8_count_X8_wouldMiss : GoodIn wsX8_count (wsV RX8 228 RX8 yX8_wouldMiss wsX8_wouldMiss) := goodIn_app (goodIn_of _ (by decide +kernel)) ggX8_count_X8_wouldMiss
theorem iX8_count_8 : ∀ w ∈ u_ws RX8 TX8 25, w ∈ wsX8_count := fun w h => List.mem_cons_of_mem _ (List.mem_append_right _ (h))
theorem tstep_X8_count {x k k2 : Int} (h : k ≤ x) (hn : ¬ x = k) (e : k + 1 = k2) : k2 ≤ x := by omega
theorem tlow_X8_count (x k : Int) : x < k ∨ k ≤ x := by omega
set_option maxHeartbeats 4000000 in
set_option maxRecDepth 100000 in
theorem w_X8_count_J112 {p : Program} {l : Launch} {e : Env} {s : State} {m : MethodId} {args : Array Value} {below : List Frame} {meth : Method} {c : Code} {E : EE} {g : GG} {ad : Nat → Nat} (hg : gwf g) (X : CallFix p m c cX8_count 2 s args wsX8_count RX8) (K : Kn E s) (hr : meth.sig.returnType = (some .int)) (hlk : meth.locks = false) {Q : Int → Mm → Prop} : ∀ (z0 : Nat) (y1 : Int) (M : Mm) (H : Heap) (locs : List Loc) (ls : Array Slot), gk g z0 = 8 → Rw E g ad M s.heap H locs → lv_has ls 2 [] → p_X8_count_J112 g z0 y1 M Q → W p l e rmX8_count s m args below meth c H locs 0 0 (MQ below (QI E g ad Q) args s 0 0 (Rg g ad)) (F0 m 112 ls [cI y1, .ref (ad z0)]) := by
  intro z0 y1 M H locs ls k_z0 w hl h
  unfold p_X8_count_J112 at h
  refine q_i (x_V (As := [cI y1]) (rest := []) X K w (c_X8_wouldMiss hg k_z0 h) (cwV 1 X.2.2.2.2 gX8_count_X8_wouldMiss rfl rfl rfl (by decide +kernel) ⟨Nat.le_of_ble_eq_true rfl, Nat.le_of_ble_eq_true rfl⟩) k_z0 (by decide) rfl rfl hl rfl (Nat.le_of_ble_eq_true rfl) dX8_count_112 ⟨Nat.le_of_ble_eq_true rfl, Nat.le_of_ble_eq_true rfl⟩) w (fun r9 M8 H locs h w => ?_)
  exact r_ireturn X hr hlk K w h dX8_count_115
set_option maxHeartbeats 4000000 in
set_option maxRecDepth 100000 in
theorem c_X8_count {E : EE} {l : Launch} {g : GG} {ad : Nat → Nat} (hg : gwf g) {o0 : Nat} {x1 : Int} {M : Mm} {Q : Int → Mm → Prop} (k_o0 : gk g o0 = 8) (h : p_X8_count g o0 x1 M Q) : Ct E l yX8_count wsX8_count rmX8_count g ad [.ref (ad o0), cI x1] M (QI E g ad Q) := by
  refine ent (cc := cX8_count) (maxL := 2) (ret := (some .int)) (own := RX8) (by decide +kernel) rfl rfl (Nat.le_of_ble_eq_true rfl) ?_
  intro p e s m below meth c ls X hr hlk K w hl
  have hl : lv_has ls 2 [(0, .ref (ad o0)), (1, cI x1)] := hl
  unfold p_X8_count at h
  refine lv_iload_n X.1 X.2.1 dX8_count_0 rfl (lv_at hl 1 rfl) ?_
  obtain ⟨i0, h⟩ := h
  obtain ⟨h1, h⟩ := h
  by_cases cs0 : x1 = 0
  · have h := h1 cs0
    refine r_tabIn (tgt := 64) X i0 dX8_count_1 0 cs0 (by decide) (by decide) rfl (by decide) ?_
    refine lv_aload_n X.1 X.2.1 dX8_count_64 rfl (lv_at hl 0 rfl) ?_
    refine r_getr (N := 25) (T := TX8) X K w iX8_count_8 k_o0 rfl (by decide) 0 (by decide) rfl rfl (List.mem_of_getElem? (i := 1) rfl) dX8_count_65 ?_
    have k1 : gk g (o0 + 1) = 9 := gch hg k_o0 (by decide) 0 (by decide) rfl rfl
    refine r_bipush X dX8_count_68 (by decide +kernel) ?_
    obtain ⟨b1, h⟩ := h
    refine r_iald X K w hg k1 (by decide) b1 dX8_count_70 ?_
    exact r_ireturn X hr hlk K w h dX8_count_71
  obtain ⟨h1, h⟩ := h
  by_cases cs1 : x1 = 1
  · have h := h1 cs1
    refine r_tabIn (tgt := 72) X i0 dX8_count_1 1 cs1 (by decide) (by decide) rfl (by decide) ?_
    refine lv_aload_n X.1 X.2.1 dX8_count_72 rfl (lv_at hl 0 rfl) ?_
    refine r_getr (N := 25) (T := TX8) X K w iX8_count_8 k_o0 rfl (by decide) 0 (by decide) rfl rfl (List.mem_of_getElem? (i := 1) rfl) dX8_count_73 ?_
    have k2 : gk g (o0 + 1) = 9 := gch hg k_o0 (by decide) 0 (by decide) rfl rfl
    refine r_bipush X dX8_count_76 (by decide +kernel) ?_
    obtain ⟨b1, h⟩ := h
    refine r_iald X K w hg k2 (by decide) b1 dX8_count_78 ?_
    exact r_ireturn X hr hlk K w h dX8_count_79
  obtain ⟨h1, h⟩ := h
  by_cases cs2 : x1 = 2
  · have h := h1 cs2
    refine r_tabIn (tgt := 80) X i0 dX8_count_1 2 cs2 (by decide) (by decide) rfl (by decide) ?_
    refine lv_aload_n X.1 X.2.1 dX8_count_80 rfl (lv_at hl 0 rfl) ?_
    refine r_getr (N := 25) (T := TX8) X K w iX8_count_8 k_o0 rfl (by decide) 0 (by decide) rfl rfl (List.mem_of_getElem? (i := 1) rfl) dX8_count_81 ?_
    have k3 : gk g (o0 + 1) = 9 := gch hg k_o0 (by decide) 0 (by decide) rfl rfl
    refine r_bipush X dX8_count_84 (by decide +kernel) ?_
    obtain ⟨b1, h⟩ := h
    refine r_iald X K w hg k3 (by decide) b1 dX8_count_86 ?_
    exact r_ireturn X hr hlk K w h dX8_count_87
  obtain ⟨h1, h⟩ := h
  by_cases cs3 : x1 = 3
  · have h := h1 cs3
    refine r_tabIn (tgt := 88) X i0 dX8_count_1 3 cs3 (by decide) (by decide) rfl (by decide) ?_
    refine lv_aload_n X.1 X.2.1 dX8_count_88 rfl (lv_at hl 0 rfl) ?_
    refine r_getr (N := 25) (T := TX8) X K w iX8_count_8 k_o0 rfl (by decide) 0 (by decide) rfl rfl (List.mem_of_getElem? (i := 1) rfl) dX8_count_89 ?_
    have k4 : gk g (o0 + 1) = 9 := gch hg k_o0 (by decide) 0 (by decide) rfl rfl
    refine r_bipush X dX8_count_92 (by decide +kernel) ?_
    refine lv_iload_n X.1 X.2.1 dX8_count_94 rfl (lv_at hl 1 rfl) ?_
    refine r_iadd X dX8_count_95 ?_
    refine r_iconst X dX8_count_96 ?_
    refine r_isub X dX8_count_97 ?_
    obtain ⟨b0, b1, h⟩ := h
    refine r_iald X K w hg k4 b0 b1 dX8_count_98 ?_
    exact r_ireturn X hr hlk K w h dX8_count_99
  obtain ⟨h1, h⟩ := h
  by_cases cs4 : x1 = 4
  · have h := h1 cs4
    refine r_tabIn (tgt := 88) X i0 dX8_count_1 4 cs4 (by decide) (by decide) rfl (by decide) ?_
    refine lv_aload_n X.1 X.2.1 dX8_count_88 rfl (lv_at hl 0 rfl) ?_
    refine r_getr (N := 25) (T := TX8) X K w iX8_count_8 k_o0 rfl (by decide) 0 (by decide) rfl rfl (List.mem_of_getElem? (i := 1) rfl) dX8_count_89 ?_
    have k5 : gk g (o0 + 1) = 9 := gch hg k_o0 (by decide) 0 (by decide) rfl rfl
    refine r_bipush X dX8_count_92 (by decide +kernel) ?_
    refine lv_iload_n X.1 X.2.1 dX8_count_94 rfl (lv_at hl 1 rfl) ?_
    refine r_iadd X dX8_count_95 ?_
    refine r_iconst X dX8_count_96 ?_
    refine r_isub X dX8_count_97 ?_
    obtain ⟨b0, b1, h⟩ := h
    refine r_iald X K w hg k5 b0 b1 dX8_count_98 ?_
    exact r_ireturn X hr hlk K w h dX8_count_99
  obtain ⟨h1, h⟩ := h
  by_cases cs5 : x1 = 5
  · have h := h1 cs5
    refine r_tabIn (tgt := 88) X i0 dX8_count_1 5 cs5 (by decide) (by decide) rfl (by decide) ?_
    refine lv_aload_n X.1 X.2.1 dX8_count_88 rfl (lv_at hl 0 rfl) ?_
    refine r_getr (N := 25) (T := TX8) X K w iX8_count_8 k_o0 rfl (by decide) 0 (by decide) rfl rfl (List.mem_of_getElem? (i := 1) rfl) dX8_count_89 ?_
    have k6 : gk g (o0 + 1) = 9 := gch hg k_o0 (by decide) 0 (by decide) rfl rfl
    refine r_bipush X dX8_count_92 (by decide +kernel) ?_
    refine lv_iload_n X.1 X.2.1 dX8_count_94 rfl (lv_at hl 1 rfl) ?_
    refine r_iadd X dX8_count_95 ?_
    refine r_iconst X dX8_count_96 ?_
    refine r_isub X dX8_count_97 ?_
    obtain ⟨b0, b1, h⟩ := h
    refine r_iald X K w hg k6 b0 b1 dX8_count_98 ?_
    exact r_ireturn X hr hlk K w h dX8_count_99
  obtain ⟨h1, h⟩ := h
  by_cases cs6 : x1 = 6
  · have h := h1 cs6
    refine r_tabIn (tgt := 88) X i0 dX8_count_1 6 cs6 (by decide) (by decide) rfl (by decide) ?_
    refine lv_aload_n X.1 X.2.1 dX8_count_88 rfl (lv_at hl 0 rfl) ?_
    refine r_getr (N := 25) (T := TX8) X K w iX8_count_8 k_o0 rfl (by decide) 0 (by decide) rfl rfl (List.mem_of_getElem? (i := 1) rfl) dX8_count_89 ?_
    have k7 : gk g (o0 + 1) = 9 := gch hg k_o0 (by decide) 0 (by decide) rfl rfl
    refine r_bipush X dX8_count_92 (by decide +kernel) ?_
    refine lv_iload_n X.1 X.2.1 dX8_count_94 rfl (lv_at hl 1 rfl) ?_
    refine r_iadd X dX8_count_95 ?_
    refine r_iconst X dX8_count_96 ?_
    refine r_isub X dX8_count_97 ?_
    obtain ⟨b0, b1, h⟩ := h
    refine r_iald X K w hg k7 b0 b1 dX8_count_98 ?_
    exact r_ireturn X hr hlk K w h dX8_count_99
  obtain ⟨h1, h⟩ := h
  by_cases cs7 : x1 = 7
  · have h := h1 cs7
    refine r_tabIn (tgt := 100) X i0 dX8_count_1 7 cs7 (by decide) (by decide) rfl (by decide) ?_
    refine lv_aload_n X.1 X.2.1 dX8_count_100 rfl (lv_at hl 0 rfl) ?_
    refine lv_iload_n X.1 X.2.1 dX8_count_101 rfl (lv_at hl 1 rfl) ?_
    refine r_bipush X dX8_count_102 (by decide +kernel) ?_
    obtain ⟨i0, h1, h2⟩ := h
    refine r_icmp_ne (tgt := 111) X i0 ⟨by decide, by decide⟩ dX8_count_104 (by decide) (fun cc => ?_) (fun cc => ?_)
    · have h := h1 cc
      refine r_iconst X dX8_count_111 ?_
      exact w_X8_count_J112 hg X K hr hlk o0 0 M _ _ _ k_o0 w (lv_sub hl [] rfl) h
    · have h := h2 cc
      refine r_iconst X dX8_count_107 ?_
      refine lv_goto (tgt := 112) X.1 X.2.1 dX8_count_108 (by decide) ?_
      exact w_X8_count_J112 hg X K hr hlk o0 1 M _ _ _ k_o0 w (lv_sub hl [] rfl) h
  obtain ⟨h1, h⟩ := h
  by_cases cs8 : x1 = 8
  · have h := h1 cs8
    refine r_tabIn (tgt := 100) X i0 dX8_count_1 8 cs8 (by decide) (by decide) rfl (by decide) ?_
    refine lv_aload_n X.1 X.2.1 dX8_count_100 rfl (lv_at hl 0 rfl) ?_
    refine lv_iload_n X.1 X.2.1 dX8_count_101 rfl (lv_at hl 1 rfl) ?_
    refine r_bipush X dX8_count_102 (by decide +kernel) ?_
    obtain ⟨i0, h1, h2⟩ := h
    refine r_icmp_ne (tgt := 111) X i0 ⟨by decide, by decide⟩ dX8_count_104 (by decide) (fun cc => ?_) (fun cc => ?_)
    · have h := h1 cc
      refine r_iconst X dX8_count_111 ?_
      exact w_X8_count_J112 hg X K hr hlk o0 0 M _ _ _ k_o0 w (lv_sub hl [] rfl) h
    · have h := h2 cc
      refine r_iconst X dX8_count_107 ?_
      refine lv_goto (tgt := 112) X.1 X.2.1 dX8_count_108 (by decide) ?_
      exact w_X8_count_J112 hg X K hr hlk o0 1 M _ _ _ k_o0 w (lv_sub hl [] rfl) h
  obtain ⟨h1, h⟩ := h
  by_cases cs9 : x1 = 9
  · have h := h1 cs9
    refine r_tabIn (tgt := 116) X i0 dX8_count_1 9 cs9 (by decide) (by decide) rfl (by decide) ?_
    refine lv_aload_n X.1 X.2.1 dX8_count_116 rfl (lv_at hl 0 rfl) ?_
    refine q_i (x_V (As := []) (rest := []) X K w (c_X8_allCharges hg k_o0 h) (cwV 0 X.2.2.2.2 gX8_count_X8_allCharges rfl rfl rfl (by decide +kernel) ⟨Nat.le_of_ble_eq_true rfl, Nat.le_of_ble_eq_true rfl⟩) k_o0 (by decide) rfl rfl hl rfl (Nat.le_of_ble_eq_true rfl) dX8_count_117 ⟨Nat.le_of_ble_eq_true rfl, Nat.le_of_ble_eq_true rfl⟩) w (fun r11 M10 H locs h w => ?_)
    exact r_ireturn X hr hlk K w h dX8_count_120
  obtain ⟨h1, h⟩ := h
  by_cases cs10 : x1 = 10
  · have h := h1 cs10
    refine r_tabIn (tgt := 121) X i0 dX8_count_1 10 cs10 (by decide) (by decide) rfl (by decide) ?_
    refine lv_aload_n X.1 X.2.1 dX8_count_121 rfl (lv_at hl 0 rfl) ?_
    refine r_geti (N := 25) (T := TX8) (kz := 4) X K w iX8_count_8 k_o0 rfl (by decide) 4 (by decide) rfl rfl rfl (List.mem_of_getElem? (i := 2) rfl) dX8_count_122 ?_
    exact r_ireturn X hr hlk K w h dX8_count_125
  obtain ⟨h1, h⟩ := h
  by_cases cs11 : x1 = 11
  · have h := h1 cs11
    refine r_tabIn (tgt := 126) X i0 dX8_count_1 11 cs11 (by decide) (by decide) rfl (by decide) ?_
    refine lv_aload_n X.1 X.2.1 dX8_count_126 rfl (lv_at hl 0 rfl) ?_
    refine r_geti (N := 25) (T := TX8) (kz := 20) X K w iX8_count_8 k_o0 rfl (by decide) 20 (by decide) rfl rfl rfl (List.mem_of_getElem? (i := 3) rfl) dX8_count_127 ?_
    exact r_ireturn X hr hlk K w h dX8_count_130
  have co : x1 < 0 ∨ 11 < x1 := by
    rcases tlow_X8_count x1 0 with q | q
    · exact Or.inl q
    have q : (1 : Int) ≤ x1 := tstep_X8_count q cs0 rfl
    have q : (2 : Int) ≤ x1 := tstep_X8_count q cs1 rfl
    have q : (3 : Int) ≤ x1 := tstep_X8_count q cs2 rfl
    have q : (4 : Int) ≤ x1 := tstep_X8_count q cs3 rfl
    have q : (5 : Int) ≤ x1 := tstep_X8_count q cs4 rfl
    have q : (6 : Int) ≤ x1 := tstep_X8_count q cs5 rfl
    have q : (7 : Int) ≤ x1 := tstep_X8_count q cs6 rfl
    have q : (8 : Int) ≤ x1 := tstep_X8_count q cs7 rfl
    have q : (9 : Int) ≤ x1 := tstep_X8_count q cs8 rfl
    have q : (10 : Int) ≤ x1 := tstep_X8_count q cs9 rfl
    have q : (11 : Int) ≤ x1 := tstep_X8_count q cs10 rfl
    have q : (12 : Int) ≤ x1 := tstep_X8_count q cs11 rfl
    exact Or.inr q
  replace h := h co
  refine r_tabOut (tgt := 131) X i0 dX8_count_1 co (by decide) ?_
  refine r_bipush X dX8_count_131 (by decide +kernel) ?_
  exact r_ireturn X hr hlk K w h dX8_count_133
