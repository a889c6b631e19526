/-! contracts of the methods, by gen.py: X8_takesOutScene, X8_canShift, X8_shift, X8_cutScene, X8_take, X8_undo, X8_keep, X8_restore, X8_cuesOfSound, X8_lacks, X8_sound, X8_cue, X8_hand -/
theorem dX8_takesOutScene_0 : decode cX8_takesOutScene 0 = .ok (.aload_n 0, 1) := by decide +kernel
theorem dX8_takesOutScene_1 : decode cX8_takesOutScene 1 = .ok (.getfield 7, 3) := by decide +kernel
theorem dX8_takesOutScene_4 : decode cX8_takesOutScene 4 = .ok (.bipush 36, 2) := by decide +kernel
theorem dX8_takesOutScene_6 : decode cX8_takesOutScene 6 = .ok (.iaload, 1) := by decide +kernel
theorem dX8_takesOutScene_7 : decode cX8_takesOutScene 7 = .ok (.iconst 1, 1) := by decide +kernel
theorem dX8_takesOutScene_8 : decode cX8_takesOutScene 8 = .ok (.isub, 1) := by decide +kernel
theorem dX8_takesOutScene_9 : decode cX8_takesOutScene 9 = .ok (.istore_n 2, 1) := by decide +kernel
theorem dX8_takesOutScene_10 : decode cX8_takesOutScene 10 = .ok (.iload_n 2, 1) := by decide +kernel
theorem dX8_takesOutScene_11 : decode cX8_takesOutScene 11 = .ok (.ifCond .lt 24, 3) := by decide +kernel
theorem dX8_takesOutScene_14 : decode cX8_takesOutScene 14 = .ok (.aload_n 0, 1) := by decide +kernel
theorem dX8_takesOutScene_15 : decode cX8_takesOutScene 15 = .ok (.iload_n 2, 1) := by decide +kernel
theorem dX8_takesOutScene_16 : decode cX8_takesOutScene 16 = .ok (.iconst 0, 1) := by decide +kernel
theorem dX8_takesOutScene_17 : decode cX8_takesOutScene 17 = .ok (.invokevirtual 77, 3) := by decide +kernel
theorem dX8_takesOutScene_20 : decode cX8_takesOutScene 20 = .ok (.iload_n 1, 1) := by decide +kernel
theorem dX8_takesOutScene_21 : decode cX8_takesOutScene 21 = .ok (.if_icmp .ne 8, 3) := by decide +kernel
theorem dX8_takesOutScene_24 : decode cX8_takesOutScene 24 = .ok (.aload_n 0, 1) := by decide +kernel
theorem dX8_takesOutScene_25 : decode cX8_takesOutScene 25 = .ok (.iload_n 2, 1) := by decide +kernel
theorem dX8_takesOutScene_26 : decode cX8_takesOutScene 26 = .ok (.invokevirtual 182, 3) := by decide +kernel
theorem dX8_takesOutScene_29 : decode cX8_takesOutScene 29 = .ok (.iinc 2 (-1), 3) := by decide +kernel
theorem dX8_takesOutScene_32 : decode cX8_takesOutScene 32 = .ok (.goto (-22), 3) := by decide +kernel
theorem dX8_takesOutScene_35 : decode cX8_takesOutScene 35 = .ok (.return_, 1) := by decide +kernel
set_option maxRecDepth 20000 in
theorem ggX8_takesOutScene_X8_of : GoodIn wsX8_takesOutScene wsX8_of := goodIn_r _ [6, 1, 11, 12, 13, 14, 15, 16, 17, 18, 19, 20, 21, 22, 23, 24, 25, 26, 27, 28, 29, 30, 31, 32, 33, 34, 35] (by decide +kernel) (by decide +kernel)
set_option maxRecDepth 20000 in
theorem gX8_takesOutScene_X8_of : GoodIn wsX8_takesOutScene (wsV RX8 77 RX8 yX8_of wsX8_of) := goodIn_app (goodIn_of _ (by decide +kernel)) ggX8_takesOutScene_X8_of
set_option maxRecDepth 20000 in
theorem ggX8_takesOutScene_X8_takesOut : GoodIn wsX8_takesOutScene wsX8_takesOut := goodIn_r _ [10, 1, 11, 12, 13, 14, 15, 16, 17, 18, 19, 20, 21, 22, 23, 24, 25, 26, 27, 28, 29, 30, 31, 32, 33, 34, 35] (by decide +kernel) (by decide +kernel)
set_option maxRecDepth 20000 in
theorem gX8_takesOutScene_X8_takesOut : GoodIn wsX8_takesOutScene (wsV RX8 182 RX8 yX8_takesOut wsX8_takesOut) := goodIn_app (goodIn_of _ (by decide +kernel)) ggX8_takesOutScene_X8_takesOut
theorem iX8_takesOutScene_8 : ∀ w ∈ u_ws RX8 TX8 25, w ∈ wsX8_takesOutScene := fun w h => List.mem_cons_of_mem _ (List.mem_append_right _ (h))
set_option maxHeartbeats 4000000 in
set_option maxRecDepth 100000 in
theorem w_X8_takesOutScene_L10 {p : Program} {l : Launch} {e : Env} {s : State} {m : MethodId} {args : Array Value} {below : List Frame} {meth : Method} {c : Code} {E : EE} {g : GG} {ad : Nat → Nat} (hg : gwf g) (X : CallFix p m c cX8_takesOutScene 3 s args wsX8_takesOutScene RX8) (K : Kn E s) (hr : meth.sig.returnType = none) (hlk : meth.locks = false) {Q : Mm → Prop} : ∀ (n : Nat) (o0 : Nat) (x1 : Int) (x2 : Int) (M : Mm) (H : Heap) (locs : List Loc) (ls : Array Slot), gk g o0 = 8 → Rw E g ad M s.heap H locs → lv_has ls 3 [(0, .ref (ad o0)), (1, cI x1), (2, cI x2)] → p_X8_takesOutScene_L10 g n o0 x1 x2 M Q → W p l e rmX8_takesOutScene s m args below meth c H locs 0 0 (MQ below (QV E g ad Q) args s 0 0 (Rg g ad)) (F0 m 10 ls []) := by
  intro n
  induction n with
  | zero =>
    intro o0 x1 x2 M H locs ls k_o0 w hl h
    exact absurd h (by unfold p_X8_takesOutScene_L10; exact id)
  | succ n ih =>
    intro o0 x1 x2 M H locs ls k_o0 w hl h
    unfold p_X8_takesOutScene_L10 at h
    refine lv_iload_n X.1 X.2.1 dX8_takesOutScene_10 rfl (lv_at hl 2 rfl) ?_
    obtain ⟨i0, h1, h2⟩ := h
    refine r_if_lt (tgt := 35) X i0 dX8_takesOutScene_11 (by decide) (fun cc => ?_) (fun cc => ?_)
    · have h := h1 cc
      exact r_return X hr hlk K w h dX8_takesOutScene_35
    · have h := h2 cc
      refine lv_aload_n X.1 X.2.1 dX8_takesOutScene_14 rfl (lv_at hl 0 rfl) ?_
      refine lv_iload_n X.1 X.2.1 dX8_takesOutScene_15 rfl (lv_at hl 2 rfl) ?_
      refine r_iconst X dX8_takesOutScene_16 ?_
      refine q_i (x_V (As := [cI x2, cI 0]) (rest := []) X K w (c_X8_of hg k_o0 h) (cwV 2 X.2.2.2.2 gX8_takesOutScene_X8_of rfl rfl rfl (by decide +kernel) ⟨Nat.le_of_ble_eq_true rfl, Nat.le_of_ble_eq_true rfl⟩) k_o0 (by decide) rfl rfl hl rfl (Nat.le_of_ble_eq_true rfl) dX8_takesOutScene_17 ⟨Nat.le_of_ble_eq_true rfl, Nat.le_of_ble_eq_true rfl⟩) w (fun r3 M2 H locs h w => ?_)
      refine lv_iload_n X.1 X.2.1 dX8_takesOutScene_20 rfl (lv_at hl 1 rfl) ?_
      obtain ⟨i0, i1, h1, h2⟩ := h
      refine r_icmp_ne (tgt := 29) X i0 i1 dX8_takesOutScene_21 (by decide) (fun cc => ?_) (fun cc => ?_)
      · have h := h1 cc
        refine r_iinc (lv' := [(2, cI (x2 + (-1))), (0, .ref (ad o0)), (1, cI x1)]) X hl (k := 2) rfl (by decide) dX8_takesOutScene_29 rfl (fun ls hl => ?_)
        refine lv_goto (tgt := 10) X.1 X.2.1 dX8_takesOutScene_32 (by decide) ?_
        exact ih o0 x1 (x2 + (-1)) M2 _ _ _ k_o0 w (lv_sub hl [1, 2, 0] rfl) h
      · have h := h2 cc
        refine lv_aload_n X.1 X.2.1 dX8_takesOutScene_24 rfl (lv_at hl 0 rfl) ?_
        refine lv_iload_n X.1 X.2.1 dX8_takesOutScene_25 rfl (lv_at hl 2 rfl) ?_
        refine q_v (x_V (As := [cI x2]) (rest := []) X K w (c_X8_takesOut hg k_o0 h) (cwV 1 X.2.2.2.2 gX8_takesOutScene_X8_takesOut rfl rfl rfl (by decide +kernel) ⟨Nat.le_of_ble_eq_true rfl, Nat.le_of_ble_eq_true rfl⟩) k_o0 (by decide) rfl rfl hl rfl (Nat.le_of_ble_eq_true rfl) dX8_takesOutScene_26 ⟨Nat.le_of_ble_eq_true rfl, Nat.le_of_ble_eq_true rfl⟩) w (fun M4 H locs h w => ?_)
        refine r_iinc (lv' := [(2, cI (x2 + (-1))), (0, .ref (ad o0)), (1, cI x1)]) X hl (k := 2) rfl (by decide) dX8_takesOutScene_29 rfl (fun ls hl => ?_)
        refine lv_goto (tgt := 10) X.1 X.2.1 dX8_takesOutScene_32 (by decide) ?_
        exact ih o0 x1 (x2 + (-1)) M4 _ _ _ k_o0 w (lv_sub hl [1, 2, 0] rfl) h
set_option maxHeartbeats 4000000 in
set_option maxRecDepth 100000 in
theorem c_X8_takesOutScene {E : EE} {l : Launch} {g : GG} {ad : Nat → Nat} (hg : gwf g) {o0 : Nat} {x1 : Int} {M : Mm} {Q : Mm → Prop} (k_o0 : gk g o0 = 8) (h : p_X8_takesOutScene g o0 x1 M Q) : Ct E l yX8_takesOutScene wsX8_takesOutScene rmX8_takesOutScene g ad [.ref (ad o0), cI x1] M (QV E g ad Q) := by
  refine ent (cc := cX8_takesOutScene) (maxL := 3) (ret := none) (own := RX8) (by decide +kernel) rfl rfl (Nat.le_of_ble_eq_true rfl) ?_
  intro p e s m below meth c ls X hr hlk K w hl
  have hl : lv_has ls 3 [(0, .ref (ad o0)), (1, cI x1)] := hl
  unfold p_X8_takesOutScene at h
  refine lv_aload_n X.1 X.2.1 dX8_takesOutScene_0 rfl (lv_at hl 0 rfl) ?_
  refine r_getr (N := 25) (T := TX8) X K w iX8_takesOutScene_8 k_o0 rfl (by decide) 0 (by decide) rfl rfl (List.mem_of_getElem? (i := 1) rfl) dX8_takesOutScene_1 ?_
  have k1 : gk g (o0 + 1) = 9 := gch hg k_o0 (by decide) 0 (by decide) rfl rfl
  refine r_bipush X dX8_takesOutScene_4 (by decide +kernel) ?_
  obtain ⟨b1, h⟩ := h
  refine r_iald X K w hg k1 (by decide) b1 dX8_takesOutScene_6 ?_
  refine r_iconst X dX8_takesOutScene_7 ?_
  refine r_isub X dX8_takesOutScene_8 ?_
  refine lv_istore_n (lv' := [(2, cI ((M (o0 + 1) 36) - 1)), (0, .ref (ad o0)), (1, cI x1)]) X.1 X.2.1 dX8_takesOutScene_9 rfl hl (by decide) rfl (fun ls hl => ?_)
  obtain ⟨n5, h⟩ := h
  exact w_X8_takesOutScene_L10 hg X K hr hlk n5 o0 x1 ((M (o0 + 1) 36) - 1) M _ _ _ k_o0 w (lv_sub hl [1, 2, 0] rfl) h
theorem dX8_canShift_0 : decode cX8_canShift 0 = .ok (.iconst 1, 1) := by decide +kernel
theorem dX8_canShift_1 : decode cX8_canShift 1 = .ok (.istore_n 3, 1) := by decide +kernel
theorem dX8_canShift_2 : decode cX8_canShift 2 = .ok (.iconst 0, 1) := by decide +kernel
theorem dX8_canShift_3 : decode cX8_canShift 3 = .ok (.istore 4, 2) := by decide +kernel
theorem dX8_canShift_5 : decode cX8_canShift 5 = .ok (.iload 4, 2) := by decide +kernel
theorem dX8_canShift_7 : decode cX8_canShift 7 = .ok (.aload_n 0, 1) := by decide +kernel
theorem dX8_canShift_8 : decode cX8_canShift 8 = .ok (.getfield 7, 3) := by decide +kernel
theorem dX8_canShift_11 : decode cX8_canShift 11 = .ok (.bipush 36, 2) := by decide +kernel
theorem dX8_canShift_13 : decode cX8_canShift 13 = .ok (.iaload, 1) := by decide +kernel
theorem dX8_canShift_14 : decode cX8_canShift 14 = .ok (.if_icmp .ge 50, 3) := by decide +kernel
theorem dX8_canShift_17 : decode cX8_canShift 17 = .ok (.iload_n 3, 1) := by decide +kernel
theorem dX8_canShift_18 : decode cX8_canShift 18 = .ok (.ifCond .eq 38, 3) := by decide +kernel
theorem dX8_canShift_21 : decode cX8_canShift 21 = .ok (.aload_n 0, 1) := by decide +kernel
theorem dX8_canShift_22 : decode cX8_canShift 22 = .ok (.iload 4, 2) := by decide +kernel
theorem dX8_canShift_24 : decode cX8_canShift 24 = .ok (.iconst 0, 1) := by decide +kernel
theorem dX8_canShift_25 : decode cX8_canShift 25 = .ok (.invokevirtual 77, 3) := by decide +kernel
theorem dX8_canShift_28 : decode cX8_canShift 28 = .ok (.iload_n 1, 1) := by decide +kernel
theorem dX8_canShift_29 : decode cX8_canShift 29 = .ok (.if_icmp .ne 23, 3) := by decide +kernel
theorem dX8_canShift_32 : decode cX8_canShift 32 = .ok (.aload_n 0, 1) := by decide +kernel
theorem dX8_canShift_33 : decode cX8_canShift 33 = .ok (.iload 4, 2) := by decide +kernel
theorem dX8_canShift_35 : decode cX8_canShift 35 = .ok (.iconst 1, 1) := by decide +kernel
theorem dX8_canShift_36 : decode cX8_canShift 36 = .ok (.invokevirtual 77, 3) := by decide +kernel
theorem dX8_canShift_39 : decode cX8_canShift 39 = .ok (.iload_n 2, 1) := by decide +kernel
theorem dX8_canShift_40 : decode cX8_canShift 40 = .ok (.iadd, 1) := by decide +kernel
theorem dX8_canShift_41 : decode cX8_canShift 41 = .ok (.i2l, 1) := by decide +kernel
theorem dX8_canShift_42 : decode cX8_canShift 42 = .ok (.lconst 0, 1) := by decide +kernel
theorem dX8_canShift_43 : decode cX8_canShift 43 = .ok (.ldc2_w 185, 3) := by decide +kernel
theorem dX8_canShift_46 : decode cX8_canShift 46 = .ok (.invokestatic 69, 3) := by decide +kernel
theorem dX8_canShift_49 : decode cX8_canShift 49 = .ok (.ifCond .eq 7, 3) := by decide +kernel
theorem dX8_canShift_52 : decode cX8_canShift 52 = .ok (.iconst 1, 1) := by decide +kernel
theorem dX8_canShift_53 : decode cX8_canShift 53 = .ok (.goto 4, 3) := by decide +kernel
theorem dX8_canShift_56 : decode cX8_canShift 56 = .ok (.iconst 0, 1) := by decide +kernel
theorem dX8_canShift_57 : decode cX8_canShift 57 = .ok (.istore_n 3, 1) := by decide +kernel
theorem dX8_canShift_58 : decode cX8_canShift 58 = .ok (.iinc 4 1, 3) := by decide +kernel
theorem dX8_canShift_61 : decode cX8_canShift 61 = .ok (.goto (-56), 3) := by decide +kernel
theorem dX8_canShift_64 : decode cX8_canShift 64 = .ok (.iload_n 3, 1) := by decide +kernel
theorem dX8_canShift_65 : decode cX8_canShift 65 = .ok (.ireturn, 1) := by decide +kernel
set_option maxRecDepth 20000 in
theorem ggX8_canShift_X8_in : GoodIn wsX8_canShift wsX8_in := goodIn_r _ [10] (by decide +kernel) (by decide +kernel)
set_option maxRecDepth 20000 in
theorem gX8_canShift_X8_in : GoodIn wsX8_canShift (va_wsS RX8 69 yX8_in wsX8_in) := goodIn_app (goodIn_of _ (by decide +kernel)) ggX8_canShift_X8_in
set_option maxRecDepth 20000 in
theorem ggX8_canShift_X8_of : GoodIn wsX8_canShift wsX8_of := goodIn_r _ [7, 1, 11, 12, 13, 14, 15, 16, 17, 18, 19, 20, 21, 22, 23, 24, 25, 26, 27, 28, 29, 30, 31, 32, 33, 34, 35] (by decide +kernel) (by decide +kernel)
set_option maxRecDepth 20000 in
theorem gX8_canShift_X8_of : GoodIn wsX8_canShift (wsV RX8 77 RX8 yX8_of wsX8_of) := goodIn_app (goodIn_of _ (by decide +kernel)) ggX8_canShift_X8_of
theorem iX8_canShift_8 : ∀ w ∈ u_ws RX8 TX8 25, w ∈ wsX8_canShift := fun w h => List.mem_cons_of_mem _ (List.mem_append_right _ (h))
set_option maxHeartbeats 4000000 in
set_option maxRecDepth 100000 in
theorem w_X8_canShift_L5 {p : Program} {l : Launch} {e : Env} {s : State} {m : MethodId} {args : Array Value} {below : List Frame} {meth : Method} {c : Code} {E : EE} {g : GG} {ad : Nat → Nat} (hg : gwf g) (X : CallFix p m c cX8_canShift 5 s args wsX8_canShift RX8) (K : Kn E s) (hr : meth.sig.returnType = (some .boolean)) (hlk : meth.locks = false) {Q : Int → Mm → Prop} : ∀ (n : Nat) (o0 : Nat) (x1 : Int) (x2 : Int) (x3 : Int) (x4 : Int) (M : Mm) (H : Heap) (locs : List Loc) (ls : Array Slot), gk g o0 = 8 → Rw E g ad M s.heap H locs → lv_has ls 5 [(0, .ref (ad o0)), (1, cI x1), (2, cI x2), (3, cI x3), (4, cI x4)] → p_X8_canShift_L5 g n o0 x1 x2 x3 x4 M Q → W p l e rmX8_canShift s m args below meth c H locs 0 0 (MQ below (QI E g ad Q) args s 0 0 (Rg g ad)) (F0 m 5 ls []) := by
  intro n
  induction n with
  | zero =>
    intro o0 x1 x2 x3 x4 M H locs ls k_o0 w hl h
    exact absurd h (by unfold p_X8_canShift_L5; exact id)
  | succ n ih =>
    intro o0 x1 x2 x3 x4 M H locs ls k_o0 w hl h
    unfold p_X8_canShift_L5 at h
    refine lv_iload X.1 X.2.1 dX8_canShift_5 (lv_at hl 4 rfl) ?_
    refine lv_aload_n X.1 X.2.1 dX8_canShift_7 rfl (lv_at hl 0 rfl) ?_
    refine r_getr (N := 25) (T := TX8) X K w iX8_canShift_8 k_o0 rfl (by decide) 0 (by decide) rfl rfl (List.mem_of_getElem? (i := 1) rfl) dX8_canShift_8 ?_
    have k1 : gk g (o0 + 1) = 9 := gch hg k_o0 (by decide) 0 (by decide) rfl rfl
    refine r_bipush X dX8_canShift_11 (by decide +kernel) ?_
    obtain ⟨b1, h⟩ := h
    refine r_iald X K w hg k1 (by decide) b1 dX8_canShift_13 ?_
    obtain ⟨i0, i1, h1, h2⟩ := h
    refine r_icmp_ge (tgt := 64) X i0 i1 dX8_canShift_14 (by decide) (fun cc => ?_) (fun cc => ?_)
    · have h := h1 cc
      refine lv_iload_n X.1 X.2.1 dX8_canShift_64 rfl (lv_at hl 3 rfl) ?_
      exact r_zreturn X hr hlk K w (nz h.1) h.2 dX8_canShift_65
    · have h := h2 cc
      refine lv_iload_n X.1 X.2.1 dX8_canShift_17 rfl (lv_at hl 3 rfl) ?_
      obtain ⟨i0, h1, h2⟩ := h
      refine r_if_eq (tgt := 56) X i0 dX8_canShift_18 (by decide) (fun cc => ?_) (fun cc => ?_)
      · have h := h1 cc
        refine r_iconst X dX8_canShift_56 ?_
        refine lv_istore_n (lv' := [(3, cI 0), (0, .ref (ad o0)), (1, cI x1), (2, cI x2), (4, cI x4)]) X.1 X.2.1 dX8_canShift_57 rfl hl (by decide) rfl (fun ls hl => ?_)
        refine r_iinc (lv' := [(4, cI (x4 + 1)), (3, cI 0), (0, .ref (ad o0)), (1, cI x1), (2, cI x2)]) X hl (k := 4) rfl (by decide) dX8_canShift_58 rfl (fun ls hl => ?_)
        refine lv_goto (tgt := 5) X.1 X.2.1 dX8_canShift_61 (by decide) ?_
        exact ih o0 x1 x2 0 (x4 + 1) M _ _ _ k_o0 w (lv_sub hl [2, 3, 4, 1, 0] rfl) h
      · have h := h2 cc
        refine lv_aload_n X.1 X.2.1 dX8_canShift_21 rfl (lv_at hl 0 rfl) ?_
        refine lv_iload X.1 X.2.1 dX8_canShift_22 (lv_at hl 4 rfl) ?_
        refine r_iconst X dX8_canShift_24 ?_
        refine q_i (x_V (As := [cI x4, cI 0]) (rest := []) X K w (c_X8_of hg k_o0 h) (cwV 2 X.2.2.2.2 gX8_canShift_X8_of rfl rfl rfl (by decide +kernel) ⟨Nat.le_of_ble_eq_true rfl, Nat.le_of_ble_eq_true rfl⟩) k_o0 (by decide) rfl rfl hl rfl (Nat.le_of_ble_eq_true rfl) dX8_canShift_25 ⟨Nat.le_of_ble_eq_true rfl, Nat.le_of_ble_eq_true rfl⟩) w (fun r3 M2 H locs h w => ?_)
        refine lv_iload_n X.1 X.2.1 dX8_canShift_28 rfl (lv_at hl 1 rfl) ?_
        obtain ⟨i0, i1, h1, h2⟩ := h
        refine r_icmp_ne (tgt := 52) X i0 i1 dX8_canShift_29 (by decide) (fun cc => ?_) (fun cc => ?_)
        · have h := h1 cc
          refine r_iconst X dX8_canShift_52 ?_
          refine lv_goto (tgt := 57) X.1 X.2.1 dX8_canShift_53 (by decide) ?_
          refine lv_istore_n (lv' := [(3, cI 1), (0, .ref (ad o0)), (1, cI x1), (2, cI x2), (4, cI x4)]) X.1 X.2.1 dX8_canShift_57 rfl hl (by decide) rfl (fun ls hl => ?_)
          refine r_iinc (lv' := [(4, cI (x4 + 1)), (3, cI 1), (0, .ref (ad o0)), (1, cI x1), (2, cI x2)]) X hl (k := 4) rfl (by decide) dX8_canShift_58 rfl (fun ls hl => ?_)
          refine lv_goto (tgt := 5) X.1 X.2.1 dX8_canShift_61 (by decide) ?_
          exact ih o0 x1 x2 1 (x4 + 1) M2 _ _ _ k_o0 w (lv_sub hl [2, 3, 4, 1, 0] rfl) h
        · have h := h2 cc
          refine lv_aload_n X.1 X.2.1 dX8_canShift_32 rfl (lv_at hl 0 rfl) ?_
          refine lv_iload X.1 X.2.1 dX8_canShift_33 (lv_at hl 4 rfl) ?_
          refine r_iconst X dX8_canShift_35 ?_
          refine q_i (x_V (As := [cI x4, cI 1]) (rest := []) X K w (c_X8_of hg k_o0 h) (cwV 2 X.2.2.2.2 gX8_canShift_X8_of rfl rfl rfl (by decide +kernel) ⟨Nat.le_of_ble_eq_true rfl, Nat.le_of_ble_eq_true rfl⟩) k_o0 (by decide) rfl rfl hl rfl (Nat.le_of_ble_eq_true rfl) dX8_canShift_36 ⟨Nat.le_of_ble_eq_true rfl, Nat.le_of_ble_eq_true rfl⟩) w (fun r5 M4 H locs h w => ?_)
          refine lv_iload_n X.1 X.2.1 dX8_canShift_39 rfl (lv_at hl 2 rfl) ?_
          refine r_iadd X dX8_canShift_40 ?_
          obtain ⟨i0, h⟩ := h
          refine r_i2l X i0 dX8_canShift_41 ?_
          refine r_lconst (v := 0) X dX8_canShift_42 (by decide +kernel) ?_
          refine r_ldc2 (v := 999) X (List.mem_of_getElem? (i := 2) rfl) dX8_canShift_43 ?_
          refine q_i (x_S (As := [cL (r5 + x2), cL 0, cL 999]) (rest := []) X K w (c_X8_in hg h) (va_cwS 3 X.2.2.2.2 gX8_canShift_X8_in rfl rfl rfl (by decide +kernel) ⟨Nat.le_of_ble_eq_true rfl, Nat.le_of_ble_eq_true rfl⟩) rfl hl rfl (Nat.le_of_ble_eq_true rfl) dX8_canShift_46 ⟨Nat.le_of_ble_eq_true rfl, Nat.le_of_ble_eq_true rfl⟩) w (fun r7 M6 H locs h w => ?_)
          obtain ⟨i0, h1, h2⟩ := h
          refine r_if_eq (tgt := 56) X i0 dX8_canShift_49 (by decide) (fun cc => ?_) (fun cc => ?_)
          · have h := h1 cc
            refine r_iconst X dX8_canShift_56 ?_
            refine lv_istore_n (lv' := [(3, cI 0), (0, .ref (ad o0)), (1, cI x1), (2, cI x2), (4, cI x4)]) X.1 X.2.1 dX8_canShift_57 rfl hl (by decide) rfl (fun ls hl => ?_)
            refine r_iinc (lv' := [(4, cI (x4 + 1)), (3, cI 0), (0, .ref (ad o0)), (1, cI x1), (2, cI x2)]) X hl (k := 4) rfl (by decide) dX8_canShift_58 rfl (fun ls hl => ?_)
            refine lv_goto (tgt := 5) X.1 X.2.1 dX8_canShift_61 (by decide) ?_
            exact ih o0 x1 x2 0 (x4 + 1) M6 _ _ _ k_o0 w (lv_sub hl [2, 3, 4, 1, 0] rfl) h
          · have h := h2 cc
            refine r_iconst X dX8_canShift_52 ?_
            refine lv_goto (tgt := 57) X.1 X.2.1 dX8_canShift_53 (by decide) ?_
            refine lv_istore_n (lv' := [(3, cI 1), (0, .ref (ad o0)), (1, cI x1), (2, cI x2), (4, cI x4)]) X.1 X.2.1 dX8_canShift_57 rfl hl (by decide) rfl (fun ls hl => ?_)
            refine r_iinc (lv' := [(4, cI (x4 + 1)), (3, cI 1), (0, .ref (ad o0)), (1, cI x1), (2, cI x2)]) X hl (k := 4) rfl (by decide) dX8_canShift_58 rfl (fun ls hl => ?_)
            refine lv_goto (tgt := 5) X.1 X.2.1 dX8_canShift_61 (by decide) ?_
            exact ih o0 x1 x2 1 (x4 + 1) M6 _ _ _ k_o0 w (lv_sub hl [2, 3, 4, 1, 0] rfl) h
set_option maxHeartbeats 4000000 in
set_option maxRecDepth 100000 in
theorem c_X8_canShift {E : EE} {l : Launch} {g : GG} {ad : Nat → Nat} (hg : gwf g) {o0 : Nat} {x1 : Int} {x2 : Int} {M : Mm} {Q : Int → Mm → Prop} (k_o0 : gk g o0 = 8) (h : p_X8_canShift g o0 x1 x2 M Q) : Ct E l yX8_canShift wsX8_canShift rmX8_canShift g ad [.ref (ad o0), cI x1, cI x2] M (QI E g ad Q) := by
  refine ent (cc := cX8_canShift) (maxL := 5) (ret := (some .boolean)) (own := RX8) (by decide +kernel) rfl rfl (Nat.le_of_ble_eq_true rfl) ?_
  intro p e s m below meth c ls X hr hlk K w hl
  have hl : lv_has ls 5 [(0, .ref (ad o0)), (1, cI x1), (2, cI x2)] := hl
  unfold p_X8_canShift at h
  refine r_iconst X dX8_canShift_0 ?_
  refine lv_istore_n (lv' := [(3, cI 1), (0, .ref (ad o0)), (1, cI x1), (2, cI x2)]) X.1 X.2.1 dX8_canShift_1 rfl hl (by decide) rfl (fun ls hl => ?_)
  refine r_iconst X dX8_canShift_2 ?_
  refine lv_istore (lv' := [(4, cI 0), (3, cI 1), (0, .ref (ad o0)), (1, cI x1), (2, cI x2)]) X.1 X.2.1 dX8_canShift_3 hl (by decide) rfl (fun ls hl => ?_)
  obtain ⟨n8, h⟩ := h
  exact w_X8_canShift_L5 hg X K hr hlk n8 o0 x1 x2 1 0 M _ _ _ k_o0 w (lv_sub hl [2, 3, 4, 1, 0] rfl) h
theorem dX8_shift_0 : decode cX8_shift 0 = .ok (.iload_n 1, 1) := by decide +kernel
theorem dX8_shift_1 : decode cX8_shift 1 = .ok (.invokestatic 187, 3) := by decide +kernel
theorem dX8_shift_4 : decode cX8_shift 4 = .ok (.ifCond .ne 5, 3) := by decide +kernel
theorem dX8_shift_7 : decode cX8_shift 7 = .ok (.iconst (-1), 1) := by decide +kernel
theorem dX8_shift_8 : decode cX8_shift 8 = .ok (.ireturn, 1) := by decide +kernel
theorem dX8_shift_9 : decode cX8_shift 9 = .ok (.iload_n 2, 1) := by decide +kernel
theorem dX8_shift_10 : decode cX8_shift 10 = .ok (.i2l, 1) := by decide +kernel
theorem dX8_shift_11 : decode cX8_shift 11 = .ok (.ldc2_w 190, 3) := by decide +kernel
theorem dX8_shift_14 : decode cX8_shift 14 = .ok (.ldc2_w 192, 3) := by decide +kernel
theorem dX8_shift_17 : decode cX8_shift 17 = .ok (.invokestatic 69, 3) := by decide +kernel
theorem dX8_shift_20 : decode cX8_shift 20 = .ok (.ifCond .ne 6, 3) := by decide +kernel
theorem dX8_shift_23 : decode cX8_shift 23 = .ok (.bipush (-2), 2) := by decide +kernel
theorem dX8_shift_25 : decode cX8_shift 25 = .ok (.ireturn, 1) := by decide +kernel
theorem dX8_shift_26 : decode cX8_shift 26 = .ok (.aload_n 0, 1) := by decide +kernel
theorem dX8_shift_27 : decode cX8_shift 27 = .ok (.iload_n 1, 1) := by decide +kernel
theorem dX8_shift_28 : decode cX8_shift 28 = .ok (.iload_n 2, 1) := by decide +kernel
theorem dX8_shift_29 : decode cX8_shift 29 = .ok (.invokevirtual 194, 3) := by decide +kernel
theorem dX8_shift_32 : decode cX8_shift 32 = .ok (.ifCond .ne 6, 3) := by decide +kernel
theorem dX8_shift_35 : decode cX8_shift 35 = .ok (.bipush (-4), 2) := by decide +kernel
theorem dX8_shift_37 : decode cX8_shift 37 = .ok (.ireturn, 1) := by decide +kernel
theorem dX8_shift_38 : decode cX8_shift 38 = .ok (.aload_n 0, 1) := by decide +kernel
theorem dX8_shift_39 : decode cX8_shift 39 = .ok (.iload_n 1, 1) := by decide +kernel
theorem dX8_shift_40 : decode cX8_shift 40 = .ok (.invokevirtual 197, 3) := by decide +kernel
theorem dX8_shift_43 : decode cX8_shift 43 = .ok (.istore_n 3, 1) := by decide +kernel
theorem dX8_shift_44 : decode cX8_shift 44 = .ok (.iload_n 2, 1) := by decide +kernel
theorem dX8_shift_45 : decode cX8_shift 45 = .ok (.ifCond .eq 7, 3) := by decide +kernel
theorem dX8_shift_48 : decode cX8_shift 48 = .ok (.iload_n 3, 1) := by decide +kernel
theorem dX8_shift_49 : decode cX8_shift 49 = .ok (.ifCond .ne 6, 3) := by decide +kernel
theorem dX8_shift_52 : decode cX8_shift 52 = .ok (.bipush (-5), 2) := by decide +kernel
theorem dX8_shift_54 : decode cX8_shift 54 = .ok (.ireturn, 1) := by decide +kernel
theorem dX8_shift_55 : decode cX8_shift 55 = .ok (.aload_n 0, 1) := by decide +kernel
theorem dX8_shift_56 : decode cX8_shift 56 = .ok (.invokevirtual 116, 3) := by decide +kernel
theorem dX8_shift_59 : decode cX8_shift 59 = .ok (.aload_n 0, 1) := by decide +kernel
theorem dX8_shift_60 : decode cX8_shift 60 = .ok (.iload_n 1, 1) := by decide +kernel
theorem dX8_shift_61 : decode cX8_shift 61 = .ok (.invokevirtual 200, 3) := by decide +kernel
theorem dX8_shift_64 : decode cX8_shift 64 = .ok (.bipush 41, 2) := by decide +kernel
theorem dX8_shift_66 : decode cX8_shift 66 = .ok (.istore 4, 2) := by decide +kernel
theorem dX8_shift_68 : decode cX8_shift 68 = .ok (.iload 4, 2) := by decide +kernel
theorem dX8_shift_70 : decode cX8_shift 70 = .ok (.bipush 41, 2) := by decide +kernel
theorem dX8_shift_72 : decode cX8_shift 72 = .ok (.iconst 4, 1) := by decide +kernel
theorem dX8_shift_73 : decode cX8_shift 73 = .ok (.aload_n 0, 1) := by decide +kernel
theorem dX8_shift_74 : decode cX8_shift 74 = .ok (.getfield 13, 3) := by decide +kernel
theorem dX8_shift_77 : decode cX8_shift 77 = .ok (.bipush 36, 2) := by decide +kernel
theorem dX8_shift_79 : decode cX8_shift 79 = .ok (.iaload, 1) := by decide +kernel
theorem dX8_shift_80 : decode cX8_shift 80 = .ok (.imul, 1) := by decide +kernel
theorem dX8_shift_81 : decode cX8_shift 81 = .ok (.iadd, 1) := by decide +kernel
theorem dX8_shift_82 : decode cX8_shift 82 = .ok (.if_icmp .ge 56, 3) := by decide +kernel
theorem dX8_shift_85 : decode cX8_shift 85 = .ok (.aload_n 0, 1) := by decide +kernel
theorem dX8_shift_86 : decode cX8_shift 86 = .ok (.getfield 13, 3) := by decide +kernel
theorem dX8_shift_89 : decode cX8_shift 89 = .ok (.iload 4, 2) := by decide +kernel
theorem dX8_shift_91 : decode cX8_shift 91 = .ok (.iconst 0, 1) := by decide +kernel
theorem dX8_shift_92 : decode cX8_shift 92 = .ok (.iadd, 1) := by decide +kernel
theorem dX8_shift_93 : decode cX8_shift 93 = .ok (.iaload, 1) := by decide +kernel
theorem dX8_shift_94 : decode cX8_shift 94 = .ok (.iload_n 1, 1) := by decide +kernel
theorem dX8_shift_95 : decode cX8_shift 95 = .ok (.if_icmp .ne 37, 3) := by decide +kernel
theorem dX8_shift_98 : decode cX8_shift 98 = .ok (.aload_n 0, 1) := by decide +kernel
theorem dX8_shift_99 : decode cX8_shift 99 = .ok (.iload_n 1, 1) := by decide +kernel
theorem dX8_shift_100 : decode cX8_shift 100 = .ok (.aload_n 0, 1) := by decide +kernel
theorem dX8_shift_101 : decode cX8_shift 101 = .ok (.getfield 13, 3) := by decide +kernel
theorem dX8_shift_104 : decode cX8_shift 104 = .ok (.iload 4, 2) := by decide +kernel
theorem dX8_shift_106 : decode cX8_shift 106 = .ok (.iconst 1, 1) := by decide +kernel
theorem dX8_shift_107 : decode cX8_shift 107 = .ok (.iadd, 1) := by decide +kernel
theorem dX8_shift_108 : decode cX8_shift 108 = .ok (.iaload, 1) := by decide +kernel
theorem dX8_shift_109 : decode cX8_shift 109 = .ok (.iload_n 2, 1) := by decide +kernel
theorem dX8_shift_110 : decode cX8_shift 110 = .ok (.iadd, 1) := by decide +kernel
theorem dX8_shift_111 : decode cX8_shift 111 = .ok (.aload_n 0, 1) := by decide +kernel
theorem dX8_shift_112 : decode cX8_shift 112 = .ok (.getfield 13, 3) := by decide +kernel
theorem dX8_shift_115 : decode cX8_shift 115 = .ok (.iload 4, 2) := by decide +kernel
theorem dX8_shift_117 : decode cX8_shift 117 = .ok (.iconst 2, 1) := by decide +kernel
theorem dX8_shift_118 : decode cX8_shift 118 = .ok (.iadd, 1) := by decide +kernel
theorem dX8_shift_119 : decode cX8_shift 119 = .ok (.iaload, 1) := by decide +kernel
theorem dX8_shift_120 : decode cX8_shift 120 = .ok (.aload_n 0, 1) := by decide +kernel
theorem dX8_shift_121 : decode cX8_shift 121 = .ok (.getfield 13, 3) := by decide +kernel
theorem dX8_shift_124 : decode cX8_shift 124 = .ok (.iload 4, 2) := by decide +kernel
theorem dX8_shift_126 : decode cX8_shift 126 = .ok (.iconst 3, 1) := by decide +kernel
theorem dX8_shift_127 : decode cX8_shift 127 = .ok (.iadd, 1) := by decide +kernel
theorem dX8_shift_128 : decode cX8_shift 128 = .ok (.iaload, 1) := by decide +kernel
theorem dX8_shift_129 : decode cX8_shift 129 = .ok (.invokevirtual 175, 3) := by decide +kernel
theorem dX8_shift_132 : decode cX8_shift 132 = .ok (.iinc 4 4, 3) := by decide +kernel
theorem dX8_shift_135 : decode cX8_shift 135 = .ok (.goto (-67), 3) := by decide +kernel
theorem dX8_shift_138 : decode cX8_shift 138 = .ok (.aload_n 0, 1) := by decide +kernel
theorem dX8_shift_139 : decode cX8_shift 139 = .ok (.iload_n 3, 1) := by decide +kernel
theorem dX8_shift_140 : decode cX8_shift 140 = .ok (.invokevirtual 119, 3) := by decide +kernel
theorem dX8_shift_143 : decode cX8_shift 143 = .ok (.ireturn, 1) := by decide +kernel
set_option maxRecDepth 20000 in
theorem ggX8_shift_X8_acted : GoodIn wsX8_shift wsX8_acted := goodIn_r _ [55, 56, 57, 3, 58, 59, 60, 61, 62, 63, 64, 65, 66, 67, 68, 69, 70, 71, 72, 73, 74, 75, 76, 77, 78, 79, 80, 81, 82] (by decide +kernel) (by decide +kernel)
set_option maxRecDepth 20000 in
theorem gX8_shift_X8_acted : GoodIn wsX8_shift (wsV RX8 119 RX8 yX8_acted wsX8_acted) := goodIn_app (goodIn_of _ (by decide +kernel)) ggX8_shift_X8_acted
set_option maxRecDepth 20000 in
theorem ggX8_shift_X8_canShift : GoodIn wsX8_shift wsX8_canShift := goodIn_r _ [15, 16, 17, 18, 19, 20, 6, 21, 9, 10, 11, 58, 59, 60, 61, 62, 63, 64, 65, 66, 67, 68, 69, 70, 71, 72, 73, 74, 75, 76, 77, 78, 79, 80, 81, 82] (by decide +kernel) (by decide +kernel)
set_option maxRecDepth 20000 in
theorem gX8_shift_X8_canShift : GoodIn wsX8_shift (wsV RX8 194 RX8 yX8_canShift wsX8_canShift) := goodIn_app (goodIn_of _ (by decide +kernel)) ggX8_shift_X8_canShift
set_option maxRecDepth 20000 in
theorem ggX8_shift_X8_cuesOf : GoodIn wsX8_shift wsX8_cuesOf := goodIn_r _ [25, 16, 18, 19, 20, 6, 21, 58, 59, 60, 61, 62, 63, 64, 65, 66, 67, 68, 69, 70, 71, 72, 73, 74, 75, 76, 77, 78, 79, 80, 81, 82] (by decide +kernel) (by decide +kernel)
set_option maxRecDepth 20000 in
theorem gX8_shift_X8_cuesOf : GoodIn wsX8_shift (wsV RX8 197 RX8 yX8_cuesOf wsX8_cuesOf) := goodIn_app (goodIn_of _ (by decide +kernel)) ggX8_shift_X8_cuesOf
set_option maxRecDepth 20000 in
theorem ggX8_shift_X8_in : GoodIn wsX8_shift wsX8_in := goodIn_r _ [11] (by decide +kernel) (by decide +kernel)
set_option maxRecDepth 20000 in
theorem gX8_shift_X8_in : GoodIn wsX8_shift (va_wsS RX8 69 yX8_in wsX8_in) := goodIn_app (goodIn_of _ (by decide +kernel)) ggX8_shift_X8_in
set_option maxRecDepth 20000 in
theorem ggX8_shift_X8_isScene : GoodIn wsX8_shift wsX8_isScene := goodIn_r _ [7, 8, 9, 10, 6, 11] (by decide +kernel) (by decide +kernel)
set_option maxRecDepth 20000 in
theorem gX8_shift_X8_isScene : GoodIn wsX8_shift (va_wsS RX8 187 yX8_isScene wsX8_isScene) := goodIn_app (goodIn_of _ (by decide +kernel)) ggX8_shift_X8_isScene
set_option maxRecDepth 20000 in
theorem ggX8_shift_X8_putsIn : GoodIn wsX8_shift wsX8_putsIn := goodIn_r _ [44, 16, 45, 46, 47, 6, 48, 18, 19, 20, 21, 49, 50, 51, 58, 59, 60, 61, 62, 63, 64, 65, 66, 67, 68, 69, 70, 71, 72, 73, 74, 75, 76, 77, 78, 79, 80, 81, 82] (by decide +kernel) (by decide +kernel)
set_option maxRecDepth 20000 in
theorem gX8_shift_X8_putsIn : GoodIn wsX8_shift (wsV RX8 175 RX8 yX8_putsIn wsX8_putsIn) := goodIn_app (goodIn_of _ (by decide +kernel)) ggX8_shift_X8_putsIn
set_option maxRecDepth 20000 in
theorem ggX8_shift_X8_remember : GoodIn wsX8_shift wsX8_remember := goodIn_r _ [29, 16, 3, 30, 31, 6, 32, 58, 59, 60, 61, 62, 63, 64, 65, 66, 67, 68, 69, 70, 71, 72, 73, 74, 75, 76, 77, 78, 79, 80, 81, 82] (by decide +kernel) (by decide +kernel)
set_option maxRecDepth 20000 in
theorem gX8_shift_X8_remember : GoodIn wsX8_shift (wsV RX8 116 RX8 yX8_remember wsX8_remember) := goodIn_app (goodIn_of _ (by decide +kernel)) ggX8_shift_X8_remember
set_option maxRecDepth 20000 in
theorem ggX8_shift_X8_takesOutScene : GoodIn wsX8_shift wsX8_takesOutScene := goodIn_r _ [36, 16, 18, 19, 20, 6, 21, 37, 38, 39, 40, 58, 59, 60, 61, 62, 63, 64, 65, 66, 67, 68, 69, 70, 71, 72, 73, 74, 75, 76, 77, 78, 79, 80, 81, 82] (by decide +kernel) (by decide +kernel)
set_option maxRecDepth 20000 in
theorem gX8_shift_X8_takesOutScene : GoodIn wsX8_shift (wsV RX8 200 RX8 yX8_takesOutScene wsX8_takesOutScene) := goodIn_app (goodIn_of _ (by decide +kernel)) ggX8_shift_X8_takesOutScene
theorem iX8_shift_8 : ∀ w ∈ u_ws RX8 TX8 25, w ∈ wsX8_shift := fun w h => List.mem_cons_of_mem _ (List.mem_append_right _ (h))
set_option maxHeartbeats 4000000 in
set_option maxRecDepth 100000 in
theorem w_X8_shift_L68 {p : Program} {l : Launch} {e : Env} {s : State} {m : MethodId} {args : Array Value} {below : List Frame} {meth : Method} {c : Code} {E : EE} {g : GG} {ad : Nat → Nat} (hg : gwf g) (X : CallFix p m c cX8_shift 5 s args wsX8_shift RX8) (K : Kn E s) (hr : meth.sig.returnType = (some .int)) (hlk : meth.locks = false) {Q : Int → Mm → Prop} : ∀ (n : Nat) (o0 : Nat) (x1 : Int) (x2 : Int) (x3 : Int) (x4 : Int) (M : Mm) (H : Heap) (locs : List Loc) (ls : Array Slot), gk g o0 = 8 → Rw E g ad M s.heap H locs → lv_has ls 5 [(0, .ref (ad o0)), (1, cI x1), (2, cI x2), (3, cI x3), (4, cI x4)] → p_X8_shift_L68 g n o0 x1 x2 x3 x4 M Q → W p l e rmX8_shift s m args below meth c H locs 0 0 (MQ below (QI E g ad Q) args s 0 0 (Rg g ad)) (F0 m 68 ls []) := by
  intro n
  induction n with
  | zero =>
    intro o0 x1 x2 x3 x4 M H locs ls k_o0 w hl h
    exact absurd h (by unfold p_X8_shift_L68; exact id)
  | succ n ih =>
    intro o0 x1 x2 x3 x4 M H locs ls k_o0 w hl h
    unfold p_X8_shift_L68 at h
    refine lv_iload X.1 X.2.1 dX8_shift_68 (lv_at hl 4 rfl) ?_
    refine r_bipush X dX8_shift_70 (by decide +kernel) ?_
    refine r_iconst X dX8_shift_72 ?_
    refine lv_aload_n X.1 X.2.1 dX8_shift_73 rfl (lv_at hl 0 rfl) ?_
    refine r_getr (N := 25) (T := TX8) X K w iX8_shift_8 k_o0 rfl (by decide) 1 (by decide) rfl rfl (List.mem_of_getElem? (i := 3) rfl) dX8_shift_74 ?_
    have k11 : gk g (o0 + 2) = 9 := gch hg k_o0 (by decide) 1 (by decide) rfl rfl
    refine r_bipush X dX8_shift_77 (by decide +kernel) ?_
    obtain ⟨b1, h⟩ := h
    refine r_iald X K w hg k11 (by decide) b1 dX8_shift_79 ?_
    refine r_imul X dX8_shift_80 ?_
    refine r_iadd X dX8_shift_81 ?_
    obtain ⟨i0, i1, h1, h2⟩ := h
    refine r_icmp_ge (tgt := 138) X i0 i1 dX8_shift_82 (by decide) (fun cc => ?_) (fun cc => ?_)
    · have h := h1 cc
      refine lv_aload_n X.1 X.2.1 dX8_shift_138 rfl (lv_at hl 0 rfl) ?_
      refine lv_iload_n X.1 X.2.1 dX8_shift_139 rfl (lv_at hl 3 rfl) ?_
      refine q_i (x_V (As := [cI x3]) (rest := []) X K w (c_X8_acted hg k_o0 h) (cwV 1 X.2.2.2.2 gX8_shift_X8_acted rfl rfl rfl (by decide +kernel) ⟨Nat.le_of_ble_eq_true rfl, Nat.le_of_ble_eq_true rfl⟩) k_o0 (by decide) rfl rfl hl rfl (Nat.le_of_ble_eq_true rfl) dX8_shift_140 ⟨Nat.le_of_ble_eq_true rfl, Nat.le_of_ble_eq_true rfl⟩) w (fun r13 M12 H locs h w => ?_)
      exact r_ireturn X hr hlk K w h dX8_shift_143
    · have h := h2 cc
      refine lv_aload_n X.1 X.2.1 dX8_shift_85 rfl (lv_at hl 0 rfl) ?_
      refine r_getr (N := 25) (T := TX8) X K w iX8_shift_8 k_o0 rfl (by decide) 1 (by decide) rfl rfl (List.mem_of_getElem? (i := 3) rfl) dX8_shift_86 ?_
      have k14 : gk g (o0 + 2) = 9 := gch hg k_o0 (by decide) 1 (by decide) rfl rfl
      refine lv_iload X.1 X.2.1 dX8_shift_89 (lv_at hl 4 rfl) ?_
      refine r_iconst X dX8_shift_91 ?_
      refine r_iadd X dX8_shift_92 ?_
      obtain ⟨b0, b1, h⟩ := h
      refine r_iald X K w hg k14 b0 b1 dX8_shift_93 ?_
      refine lv_iload_n X.1 X.2.1 dX8_shift_94 rfl (lv_at hl 1 rfl) ?_
      obtain ⟨i0, i1, h1, h2⟩ := h
      refine r_icmp_ne (tgt := 132) X i0 i1 dX8_shift_95 (by decide) (fun cc => ?_) (fun cc => ?_)
      · have h := h1 cc
        refine r_iinc (lv' := [(4, cI (x4 + 4)), (0, .ref (ad o0)), (1, cI x1), (2, cI x2), (3, cI x3)]) X hl (k := 4) rfl (by decide) dX8_shift_132 rfl (fun ls hl => ?_)
        refine lv_goto (tgt := 68) X.1 X.2.1 dX8_shift_135 (by decide) ?_
        exact ih o0 x1 x2 x3 (x4 + 4) M _ _ _ k_o0 w (lv_sub hl [1, 2, 3, 4, 0] rfl) h
      · have h := h2 cc
        refine lv_aload_n X.1 X.2.1 dX8_shift_98 rfl (lv_at hl 0 rfl) ?_
        refine lv_iload_n X.1 X.2.1 dX8_shift_99 rfl (lv_at hl 1 rfl) ?_
        refine lv_aload_n X.1 X.2.1 dX8_shift_100 rfl (lv_at hl 0 rfl) ?_
        refine r_getr (N := 25) (T := TX8) X K w iX8_shift_8 k_o0 rfl (by decide) 1 (by decide) rfl rfl (List.mem_of_getElem? (i := 3) rfl) dX8_shift_101 ?_
        have k15 : gk g (o0 + 2) = 9 := gch hg k_o0 (by decide) 1 (by decide) rfl rfl
        refine lv_iload X.1 X.2.1 dX8_shift_104 (lv_at hl 4 rfl) ?_
        refine r_iconst X dX8_shift_106 ?_
        refine r_iadd X dX8_shift_107 ?_
        obtain ⟨b0, b1, h⟩ := h
        refine r_iald X K w hg k15 b0 b1 dX8_shift_108 ?_
        refine lv_iload_n X.1 X.2.1 dX8_shift_109 rfl (lv_at hl 2 rfl) ?_
        refine r_iadd X dX8_shift_110 ?_
        refine lv_aload_n X.1 X.2.1 dX8_shift_111 rfl (lv_at hl 0 rfl) ?_
        refine r_getr (N := 25) (T := TX8) X K w iX8_shift_8 k_o0 rfl (by decide) 1 (by decide) rfl rfl (List.mem_of_getElem? (i := 3) rfl) dX8_shift_112 ?_
        have k16 : gk g (o0 + 2) = 9 := gch hg k_o0 (by decide) 1 (by decide) rfl rfl
        refine lv_iload X.1 X.2.1 dX8_shift_115 (lv_at hl 4 rfl) ?_
        refine r_iconst X dX8_shift_117 ?_
        refine r_iadd X dX8_shift_118 ?_
        obtain ⟨b0, b1, h⟩ := h
        refine r_iald X K w hg k16 b0 b1 dX8_shift_119 ?_
        refine lv_aload_n X.1 X.2.1 dX8_shift_120 rfl (lv_at hl 0 rfl) ?_
        refine r_getr (N := 25) (T := TX8) X K w iX8_shift_8 k_o0 rfl (by decide) 1 (by decide) rfl rfl (List.mem_of_getElem? (i := 3) rfl) dX8_shift_121 ?_
        have k17 : gk g (o0 + 2) = 9 := gch hg k_o0 (by decide) 1 (by decide) rfl rfl
        refine lv_iload X.1 X.2.1 dX8_shift_124 (lv_at hl 4 rfl) ?_
        refine r_iconst X dX8_shift_126 ?_
        refine r_iadd X dX8_shift_127 ?_
        obtain ⟨b0, b1, h⟩ := h
        refine r_iald X K w hg k17 b0 b1 dX8_shift_128 ?_
        refine q_v (x_V (As := [cI x1, cI ((M (o0 + 2) (x4 + 1)) + x2), cI (M (o0 + 2) (x4 + 2)), cI (M (o0 + 2) (x4 + 3))]) (rest := []) X K w (c_X8_putsIn hg k_o0 h) (cwV 4 X.2.2.2.2 gX8_shift_X8_putsIn rfl rfl rfl (by decide +kernel) ⟨Nat.le_of_ble_eq_true rfl, Nat.le_of_ble_eq_true rfl⟩) k_o0 (by decide) rfl rfl hl rfl (Nat.le_of_ble_eq_true rfl) dX8_shift_129 ⟨Nat.le_of_ble_eq_true rfl, Nat.le_of_ble_eq_true rfl⟩) w (fun M18 H locs h w => ?_)
        refine r_iinc (lv' := [(4, cI (x4 + 4)), (0, .ref (ad o0)), (1, cI x1), (2, cI x2), (3, cI x3)]) X hl (k := 4) rfl (by decide) dX8_shift_132 rfl (fun ls hl => ?_)
        refine lv_goto (tgt := 68) X.1 X.2.1 dX8_shift_135 (by decide) ?_
        exact ih o0 x1 x2 x3 (x4 + 4) M18 _ _ _ k_o0 w (lv_sub hl [1, 2, 3, 4, 0] rfl) h
set_option maxHeartbeats 4000000 in
set_option maxRecDepth 100000 in
theorem c_X8_shift {E : EE} {l : Launch} {g : GG} {ad : Nat → Nat} (hg : gwf g) {o0 : Nat} {x1 : Int} {x2 : Int} {M : Mm} {Q : Int → Mm → Prop} (k_o0 : gk g o0 = 8) (h : p_X8_shift g o0 x1 x2 M Q) : Ct E l yX8_shift wsX8_shift rmX8_shift g ad [.ref (ad o0), cI x1, cI x2] M (QI E g ad Q) := by
  refine ent (cc := cX8_shift) (maxL := 5) (ret := (some .int)) (own := RX8) (by decide +kernel) rfl rfl (Nat.le_of_ble_eq_true rfl) ?_
  intro p e s m below meth c ls X hr hlk K w hl
  have hl : lv_has ls 5 [(0, .ref (ad o0)), (1, cI x1), (2, cI x2)] := hl
  unfold p_X8_shift at h
  refine lv_iload_n X.1 X.2.1 dX8_shift_0 rfl (lv_at hl 1 rfl) ?_
  refine q_i (x_S (As := [cI x1]) (rest := []) X K w (c_X8_isScene hg h) (va_cwS 1 X.2.2.2.2 gX8_shift_X8_isScene rfl rfl rfl (by decide +kernel) ⟨Nat.le_of_ble_eq_true rfl, Nat.le_of_ble_eq_true rfl⟩) rfl hl rfl (Nat.le_of_ble_eq_true rfl) dX8_shift_1 ⟨Nat.le_of_ble_eq_true rfl, Nat.le_of_ble_eq_true rfl⟩) w (fun r2 M1 H locs h w => ?_)
  obtain ⟨i0, h1, h2⟩ := h
  refine r_if_ne (tgt := 9) X i0 dX8_shift_4 (by decide) (fun cc => ?_) (fun cc => ?_)
  · have h := h1 cc
    refine lv_iload_n X.1 X.2.1 dX8_shift_9 rfl (lv_at hl 2 rfl) ?_
    obtain ⟨i0, h⟩ := h
    refine r_i2l X i0 dX8_shift_10 ?_
    refine r_ldc2 (v := -99) X (List.mem_of_getElem? (i := 1) rfl) dX8_shift_11 ?_
    refine r_ldc2 (v := 99) X (List.mem_of_getElem? (i := 2) rfl) dX8_shift_14 ?_
    refine q_i (x_S (As := [cL x2, cL (-99), cL 99]) (rest := []) X K w (c_X8_in hg h) (va_cwS 3 X.2.2.2.2 gX8_shift_X8_in rfl rfl rfl (by decide +kernel) ⟨Nat.le_of_ble_eq_true rfl, Nat.le_of_ble_eq_true rfl⟩) rfl hl rfl (Nat.le_of_ble_eq_true rfl) dX8_shift_17 ⟨Nat.le_of_ble_eq_true rfl, Nat.le_of_ble_eq_true rfl⟩) w (fun r4 M3 H locs h w => ?_)
    obtain ⟨i0, h1, h2⟩ := h
    refine r_if_ne (tgt := 26) X i0 dX8_shift_20 (by decide) (fun cc => ?_) (fun cc => ?_)
    · have h := h1 cc
      refine lv_aload_n X.1 X.2.1 dX8_shift_26 rfl (lv_at hl 0 rfl) ?_
      refine lv_iload_n X.1 X.2.1 dX8_shift_27 rfl (lv_at hl 1 rfl) ?_
      refine lv_iload_n X.1 X.2.1 dX8_shift_28 rfl (lv_at hl 2 rfl) ?_
      refine q_i (x_V (As := [cI x1, cI x2]) (rest := []) X K w (c_X8_canShift hg k_o0 h) (cwV 2 X.2.2.2.2 gX8_shift_X8_canShift rfl rfl rfl (by decide +kernel) ⟨Nat.le_of_ble_eq_true rfl, Nat.le_of_ble_eq_true rfl⟩) k_o0 (by decide) rfl rfl hl rfl (Nat.le_of_ble_eq_true rfl) dX8_shift_29 ⟨Nat.le_of_ble_eq_true rfl, Nat.le_of_ble_eq_true rfl⟩) w (fun r6 M5 H locs h w => ?_)
      obtain ⟨i0, h1, h2⟩ := h
      refine r_if_ne (tgt := 38) X i0 dX8_shift_32 (by decide) (fun cc => ?_) (fun cc => ?_)
      · have h := h1 cc
        refine lv_aload_n X.1 X.2.1 dX8_shift_38 rfl (lv_at hl 0 rfl) ?_
        refine lv_iload_n X.1 X.2.1 dX8_shift_39 rfl (lv_at hl 1 rfl) ?_
        refine q_i (x_V (As := [cI x1]) (rest := []) X K w (c_X8_cuesOf hg k_o0 h) (cwV 1 X.2.2.2.2 gX8_shift_X8_cuesOf rfl rfl rfl (by decide +kernel) ⟨Nat.le_of_ble_eq_true rfl, Nat.le_of_ble_eq_true rfl⟩) k_o0 (by decide) rfl rfl hl rfl (Nat.le_of_ble_eq_true rfl) dX8_shift_40 ⟨Nat.le_of_ble_eq_true rfl, Nat.le_of_ble_eq_true rfl⟩) w (fun r8 M7 H locs h w => ?_)
        refine lv_istore_n (lv' := [(3, cI r8), (0, .ref (ad o0)), (1, cI x1), (2, cI x2)]) X.1 X.2.1 dX8_shift_43 rfl hl (by decide) rfl (fun ls hl => ?_)
        refine lv_iload_n X.1 X.2.1 dX8_shift_44 rfl (lv_at hl 3 rfl) ?_
        obtain ⟨i0, h1, h2⟩ := h
        refine r_if_eq (tgt := 52) X i0 dX8_shift_45 (by decide) (fun cc => ?_) (fun cc => ?_)
        · have h := h1 cc
          refine r_bipush X dX8_shift_52 (by decide +kernel) ?_
          exact r_ireturn X hr hlk K w h dX8_shift_54
        · have h := h2 cc
          refine lv_iload_n X.1 X.2.1 dX8_shift_48 rfl (lv_at hl 0 rfl) ?_
          obtain ⟨i0, h1, h2⟩ := h
          refine r_if_ne (tgt := 55) X i0 dX8_shift_49 (by decide) (fun cc => ?_) (fun cc => ?_)
          · have h := h1 cc
            refine lv_aload_n X.1 X.2.1 dX8_shift_55 rfl (lv_at hl 1 rfl) ?_
            refine q_v (x_V (As := []) (rest := []) X K w (c_X8_remember hg k_o0 h) (cwV 0 X.2.2.2.2 gX8_shift_X8_remember rfl rfl rfl (by decide +kernel) ⟨Nat.le_of_ble_eq_true rfl, Nat.le_of_ble_eq_true rfl⟩) k_o0 (by decide) rfl rfl hl rfl (Nat.le_of_ble_eq_true rfl) dX8_shift_56 ⟨Nat.le_of_ble_eq_true rfl, Nat.le_of_ble_eq_true rfl⟩) w (fun M9 H locs h w => ?_)
            refine lv_aload_n X.1 X.2.1 dX8_shift_59 rfl (lv_at hl 1 rfl) ?_
            refine lv_iload_n X.1 X.2.1 dX8_shift_60 rfl (lv_at hl 2 rfl) ?_
            refine q_v (x_V (As := [cI x1]) (rest := []) X K w (c_X8_takesOutScene hg k_o0 h) (cwV 1 X.2.2.2.2 gX8_shift_X8_takesOutScene rfl rfl rfl (by decide +kernel) ⟨Nat.le_of_ble_eq_true rfl, Nat.le_of_ble_eq_true rfl⟩) k_o0 (by decide) rfl rfl hl rfl (Nat.le_of_ble_eq_true rfl) dX8_shift_61 ⟨Nat.le_of_ble_eq_true rfl, Nat.le_of_ble_eq_true rfl⟩) w (fun M10 H locs h w => ?_)
            refine r_bipush X dX8_shift_64 (by decide +kernel) ?_
            refine lv_istore (lv' := [(4, cI 41), (3, cI r8), (0, .ref (ad o0)), (1, cI x1), (2, cI x2)]) X.1 X.2.1 dX8_shift_66 hl (by decide) rfl (fun ls hl => ?_)
            obtain ⟨n19, h⟩ := h
            exact w_X8_shift_L68 hg X K hr hlk n19 o0 x1 x2 r8 41 M10 _ _ _ k_o0 w (lv_sub hl [2, 3, 4, 1, 0] rfl) h
          · have h := h2 cc
            refine r_bipush X dX8_shift_52 (by decide +kernel) ?_
            exact r_ireturn X hr hlk K w h dX8_shift_54
      · have h := h2 cc
        refine r_bipush X dX8_shift_35 (by decide +kernel) ?_
        exact r_ireturn X hr hlk K w h dX8_shift_37
    · have h := h2 cc
      refine r_bipush X dX8_shift_23 (by decide +kernel) ?_
      exact r_ireturn X hr hlk K w h dX8_shift_25
  · have h := h2 cc
    refine r_iconst X dX8_shift_7 ?_
    exact r_ireturn X hr hlk K w h dX8_shift_8
theorem dX8_cutScene_0 : decode cX8_cutScene 0 = .ok (.iload_n 1, 1) := by decide +kernel
theorem dX8_cutScene_1 : decode cX8_cutScene 1 = .ok (.invokestatic 187, 3) := by decide +kernel
theorem dX8_cutScene_4 : decode cX8_cutScene 4 = .ok (.ifCond .ne 5, 3) := by decide +kernel
theorem dX8_cutScene_7 : decode cX8_cutScene 7 = .ok (.iconst (-1), 1) := by decide +kernel
theorem dX8_cutScene_8 : decode cX8_cutScene 8 = .ok (.ireturn, 1) := by decide +kernel
theorem dX8_cutScene_9 : decode cX8_cutScene 9 = .ok (.aload_n 0, 1) := by decide +kernel
theorem dX8_cutScene_10 : decode cX8_cutScene 10 = .ok (.iload_n 1, 1) := by decide +kernel
theorem dX8_cutScene_11 : decode cX8_cutScene 11 = .ok (.invokevirtual 197, 3) := by decide +kernel
theorem dX8_cutScene_14 : decode cX8_cutScene 14 = .ok (.istore_n 2, 1) := by decide +kernel
theorem dX8_cutScene_15 : decode cX8_cutScene 15 = .ok (.iload_n 2, 1) := by decide +kernel
theorem dX8_cutScene_16 : decode cX8_cutScene 16 = .ok (.ifCond .ne 6, 3) := by decide +kernel
theorem dX8_cutScene_19 : decode cX8_cutScene 19 = .ok (.bipush (-5), 2) := by decide +kernel
theorem dX8_cutScene_21 : decode cX8_cutScene 21 = .ok (.ireturn, 1) := by decide +kernel
theorem dX8_cutScene_22 : decode cX8_cutScene 22 = .ok (.aload_n 0, 1) := by decide +kernel
theorem dX8_cutScene_23 : decode cX8_cutScene 23 = .ok (.invokevirtual 116, 3) := by decide +kernel
theorem dX8_cutScene_26 : decode cX8_cutScene 26 = .ok (.aload_n 0, 1) := by decide +kernel
theorem dX8_cutScene_27 : decode cX8_cutScene 27 = .ok (.iload_n 1, 1) := by decide +kernel
theorem dX8_cutScene_28 : decode cX8_cutScene 28 = .ok (.invokevirtual 200, 3) := by decide +kernel
theorem dX8_cutScene_31 : decode cX8_cutScene 31 = .ok (.aload_n 0, 1) := by decide +kernel
theorem dX8_cutScene_32 : decode cX8_cutScene 32 = .ok (.iload_n 2, 1) := by decide +kernel
theorem dX8_cutScene_33 : decode cX8_cutScene 33 = .ok (.invokevirtual 119, 3) := by decide +kernel
theorem dX8_cutScene_36 : decode cX8_cutScene 36 = .ok (.ireturn, 1) := by decide +kernel
set_option maxRecDepth 20000 in
theorem ggX8_cutScene_X8_acted : GoodIn wsX8_cutScene wsX8_acted := goodIn_r _ [37, 38, 39, 22, 40, 41, 42, 43, 44, 45, 46, 47, 48, 49, 50, 51, 52, 53, 54, 55, 56, 57, 58, 59, 60, 61, 62, 63, 64] (by decide +kernel) (by decide +kernel)
set_option maxRecDepth 20000 in
theorem gX8_cutScene_X8_acted : GoodIn wsX8_cutScene (wsV RX8 119 RX8 yX8_acted wsX8_acted) := goodIn_app (goodIn_of _ (by decide +kernel)) ggX8_cutScene_X8_acted
set_option maxRecDepth 20000 in
theorem ggX8_cutScene_X8_cuesOf : GoodIn wsX8_cutScene wsX8_cuesOf := goodIn_r _ [12, 13, 14, 15, 16, 3, 17, 40, 41, 42, 43, 44, 45, 46, 47, 48, 49, 50, 51, 52, 53, 54, 55, 56, 57, 58, 59, 60, 61, 62, 63, 64] (by decide +kernel) (by decide +kernel)
set_option maxRecDepth 20000 in
theorem gX8_cutScene_X8_cuesOf : GoodIn wsX8_cutScene (wsV RX8 197 RX8 yX8_cuesOf wsX8_cuesOf) := goodIn_app (goodIn_of _ (by decide +kernel)) ggX8_cutScene_X8_cuesOf
set_option maxRecDepth 20000 in
theorem ggX8_cutScene_X8_isScene : GoodIn wsX8_cutScene wsX8_isScene := goodIn_r _ [4, 5, 6, 7, 3, 8] (by decide +kernel) (by decide +kernel)
set_option maxRecDepth 20000 in
theorem gX8_cutScene_X8_isScene : GoodIn wsX8_cutScene (va_wsS RX8 187 yX8_isScene wsX8_isScene) := goodIn_app (goodIn_of _ (by decide +kernel)) ggX8_cutScene_X8_isScene
set_option maxRecDepth 20000 in
theorem ggX8_cutScene_X8_remember : GoodIn wsX8_cutScene wsX8_remember := goodIn_r _ [21, 13, 22, 23, 24, 3, 25, 40, 41, 42, 43, 44, 45, 46, 47, 48, 49, 50, 51, 52, 53, 54, 55, 56, 57, 58, 59, 60, 61, 62, 63, 64] (by decide +kernel) (by decide +kernel)
set_option maxRecDepth 20000 in
theorem gX8_cutScene_X8_remember : GoodIn wsX8_cutScene (wsV RX8 116 RX8 yX8_remember wsX8_remember) := goodIn_app (goodIn_of _ (by decide +kernel)) ggX8_cutScene_X8_remember
set_option maxRecDepth 20000 in
theorem ggX8_cutScene_X8_takesOutScene : GoodIn wsX8_cutScene wsX8_takesOutScene := goodIn_r _ [29, 13, 14, 15, 16, 3, 17, 30, 31, 32, 33, 40, 41, 42, 43, 44, 45, 46, 47, 48, 49, 50, 51, 52, 53, 54, 55, 56, 57, 58, 59, 60, 61, 62, 63, 64] (by decide +kernel) (by decide +kernel)
set_option maxRecDepth 20000 in
theorem gX8_cutScene_X8_takesOutScene : GoodIn wsX8_cutScene (wsV RX8 200 RX8 yX8_takesOutScene wsX8_takesOutScene) := goodIn_app (goodIn_of _ (by decide +kernel)) ggX8_cutScene_X8_takesOutScene
set_option maxHeartbeats 4000000 in
set_option maxRecDepth 100000 in
theorem c_X8_cutScene {E : EE} {l : Launch} {g : GG} {ad : Nat → Nat} (hg : gwf g) {o0 : Nat} {x1 : Int} {M : Mm} {Q : Int → Mm → Prop} (k_o0 : gk g o0 = 8) (h : p_X8_cutScene g o0 x1 M Q) : Ct E l yX8_cutScene wsX8_cutScene rmX8_cutScene g ad [.ref (ad o0), cI x1] M (QI E g ad Q) := by
  refine ent (cc := cX8_cutScene) (maxL := 3) (ret := (some .int)) (own := RX8) (by decide +kernel) rfl rfl (Nat.le_of_ble_eq_true rfl) ?_
  intro p e s m below meth c ls X hr hlk K w hl
  have hl : lv_has ls 3 [(0, .ref (ad o0)), (1, cI x1)] := hl
  unfold p_X8_cutScene at h
  refine lv_iload_n X.1 X.2.1 dX8_cutScene_0 rfl (lv_at hl 1 rfl) ?_
  refine q_i (x_S (As := [cI x1]) (rest := []) X K w (c_X8_isScene hg h) (va_cwS 1 X.2.2.2.2 gX8_cutScene_X8_isScene rfl rfl rfl (by decide +kernel) ⟨Nat.le_of_ble_eq_true rfl, Nat.le_of_ble_eq_true rfl⟩) rfl hl rfl (Nat.le_of_ble_eq_true rfl) dX8_cutScene_1 ⟨Nat.le_of_ble_eq_true rfl, Nat.le_of_ble_eq_true rfl⟩) w (fun r2 M1 H locs h w => ?_)
  obtain ⟨i0, h1, h2⟩ := h
  refine r_if_ne (tgt := 9) X i0 dX8_cutScene_4 (by decide) (fun cc => ?_) (fun cc => ?_)
  · have h := h1 cc
    refine lv_aload_n X.1 X.2.1 dX8_cutScene_9 rfl (lv_at hl 0 rfl) ?_
    refine lv_iload_n X.1 X.2.1 dX8_cutScene_10 rfl (lv_at hl 1 rfl) ?_
    refine q_i (x_V (As := [cI x1]) (rest := []) X K w (c_X8_cuesOf hg k_o0 h) (cwV 1 X.2.2.2.2 gX8_cutScene_X8_cuesOf rfl rfl rfl (by decide +kernel) ⟨Nat.le_of_ble_eq_true rfl, Nat.le_of_ble_eq_true rfl⟩) k_o0 (by decide) rfl rfl hl rfl (Nat.le_of_ble_eq_true rfl) dX8_cutScene_11 ⟨Nat.le_of_ble_eq_true rfl, Nat.le_of_ble_eq_true rfl⟩) w (fun r4 M3 H locs h w => ?_)
    refine lv_istore_n (lv' := [(2, cI r4), (0, .ref (ad o0)), (1, cI x1)]) X.1 X.2.1 dX8_cutScene_14 rfl hl (by decide) rfl (fun ls hl => ?_)
    refine lv_iload_n X.1 X.2.1 dX8_cutScene_15 rfl (lv_at hl 0 rfl) ?_
    obtain ⟨i0, h1, h2⟩ := h
    refine r_if_ne (tgt := 22) X i0 dX8_cutScene_16 (by decide) (fun cc => ?_) (fun cc => ?_)
    · have h := h1 cc
      refine lv_aload_n X.1 X.2.1 dX8_cutScene_22 rfl (lv_at hl 1 rfl) ?_
      refine q_v (x_V (As := []) (rest := []) X K w (c_X8_remember hg k_o0 h) (cwV 0 X.2.2.2.2 gX8_cutScene_X8_remember rfl rfl rfl (by decide +kernel) ⟨Nat.le_of_ble_eq_true rfl, Nat.le_of_ble_eq_true rfl⟩) k_o0 (by decide) rfl rfl hl rfl (Nat.le_of_ble_eq_true rfl) dX8_cutScene_23 ⟨Nat.le_of_ble_eq_true rfl, Nat.le_of_ble_eq_true rfl⟩) w (fun M5 H locs h w => ?_)
      refine lv_aload_n X.1 X.2.1 dX8_cutScene_26 rfl (lv_at hl 1 rfl) ?_
      refine lv_iload_n X.1 X.2.1 dX8_cutScene_27 rfl (lv_at hl 2 rfl) ?_
      refine q_v (x_V (As := [cI x1]) (rest := []) X K w (c_X8_takesOutScene hg k_o0 h) (cwV 1 X.2.2.2.2 gX8_cutScene_X8_takesOutScene rfl rfl rfl (by decide +kernel) ⟨Nat.le_of_ble_eq_true rfl, Nat.le_of_ble_eq_true rfl⟩) k_o0 (by decide) rfl rfl hl rfl (Nat.le_of_ble_eq_true rfl) dX8_cutScene_28 ⟨Nat.le_of_ble_eq_true rfl, Nat.le_of_ble_eq_true rfl⟩) w (fun M6 H locs h w => ?_)
      refine lv_aload_n X.1 X.2.1 dX8_cutScene_31 rfl (lv_at hl 1 rfl) ?_
      refine lv_iload_n X.1 X.2.1 dX8_cutScene_32 rfl (lv_at hl 0 rfl) ?_
      refine q_i (x_V (As := [cI r4]) (rest := []) X K w (c_X8_acted hg k_o0 h) (cwV 1 X.2.2.2.2 gX8_cutScene_X8_acted rfl rfl rfl (by decide +kernel) ⟨Nat.le_of_ble_eq_true rfl, Nat.le_of_ble_eq_true rfl⟩) k_o0 (by decide) rfl rfl hl rfl (Nat.le_of_ble_eq_true rfl) dX8_cutScene_33 ⟨Nat.le_of_ble_eq_true rfl, Nat.le_of_ble_eq_true rfl⟩) w (fun r8 M7 H locs h w => ?_)
      exact r_ireturn X hr hlk K w h dX8_cutScene_36
    · have h := h2 cc
      refine r_bipush X dX8_cutScene_19 (by decide +kernel) ?_
      exact r_ireturn X hr hlk K w h dX8_cutScene_21
  · have h := h2 cc
    refine r_iconst X dX8_cutScene_7 ?_
    exact r_ireturn X hr hlk K w h dX8_cutScene_8
theorem dX8_take_0 : decode cX8_take 0 = .ok (.aload_n 0, 1) := by decide +kernel
theorem dX8_take_1 : decode cX8_take 1 = .ok (.getfield 7, 3) := by decide +kernel
theorem dX8_take_4 : decode cX8_take 4 = .ok (.bipush 36, 2) := by decide +kernel
theorem dX8_take_6 : decode cX8_take 6 = .ok (.iaload, 1) := by decide +kernel
theorem dX8_take_7 : decode cX8_take 7 = .ok (.ifCond .ne 6, 3) := by decide +kernel
theorem dX8_take_10 : decode cX8_take 10 = .ok (.bipush (-4), 2) := by decide +kernel
theorem dX8_take_12 : decode cX8_take 12 = .ok (.ireturn, 1) := by decide +kernel
theorem dX8_take_13 : decode cX8_take 13 = .ok (.aload_n 0, 1) := by decide +kernel
theorem dX8_take_14 : decode cX8_take 14 = .ok (.invokevirtual 116, 3) := by decide +kernel
theorem dX8_take_17 : decode cX8_take 17 = .ok (.aload_n 0, 1) := by decide +kernel
theorem dX8_take_18 : decode cX8_take 18 = .ok (.invokevirtual 109, 3) := by decide +kernel
theorem dX8_take_21 : decode cX8_take 21 = .ok (.aload_n 0, 1) := by decide +kernel
theorem dX8_take_22 : decode cX8_take 22 = .ok (.getfield 7, 3) := by decide +kernel
theorem dX8_take_25 : decode cX8_take 25 = .ok (.bipush 37, 2) := by decide +kernel
theorem dX8_take_27 : decode cX8_take 27 = .ok (.dup2, 1) := by decide +kernel
theorem dX8_take_28 : decode cX8_take 28 = .ok (.iaload, 1) := by decide +kernel
theorem dX8_take_29 : decode cX8_take 29 = .ok (.iconst 1, 1) := by decide +kernel
theorem dX8_take_30 : decode cX8_take 30 = .ok (.iadd, 1) := by decide +kernel
theorem dX8_take_31 : decode cX8_take 31 = .ok (.iastore, 1) := by decide +kernel
theorem dX8_take_32 : decode cX8_take 32 = .ok (.aload_n 0, 1) := by decide +kernel
theorem dX8_take_33 : decode cX8_take 33 = .ok (.getfield 7, 3) := by decide +kernel
theorem dX8_take_36 : decode cX8_take 36 = .ok (.bipush 38, 2) := by decide +kernel
theorem dX8_take_38 : decode cX8_take 38 = .ok (.dup2, 1) := by decide +kernel
theorem dX8_take_39 : decode cX8_take 39 = .ok (.iaload, 1) := by decide +kernel
theorem dX8_take_40 : decode cX8_take 40 = .ok (.aload_n 0, 1) := by decide +kernel
theorem dX8_take_41 : decode cX8_take 41 = .ok (.getfield 7, 3) := by decide +kernel
theorem dX8_take_44 : decode cX8_take 44 = .ok (.bipush 36, 2) := by decide +kernel
theorem dX8_take_46 : decode cX8_take 46 = .ok (.iaload, 1) := by decide +kernel
theorem dX8_take_47 : decode cX8_take 47 = .ok (.aload_n 0, 1) := by decide +kernel
theorem dX8_take_48 : decode cX8_take 48 = .ok (.getfield 99, 3) := by decide +kernel
theorem dX8_take_51 : decode cX8_take 51 = .ok (.isub, 1) := by decide +kernel
theorem dX8_take_52 : decode cX8_take 52 = .ok (.iadd, 1) := by decide +kernel
theorem dX8_take_53 : decode cX8_take 53 = .ok (.iastore, 1) := by decide +kernel
theorem dX8_take_54 : decode cX8_take 54 = .ok (.aload_n 0, 1) := by decide +kernel
theorem dX8_take_55 : decode cX8_take 55 = .ok (.getfield 7, 3) := by decide +kernel
theorem dX8_take_58 : decode cX8_take 58 = .ok (.bipush 39, 2) := by decide +kernel
theorem dX8_take_60 : decode cX8_take 60 = .ok (.dup2, 1) := by decide +kernel
theorem dX8_take_61 : decode cX8_take 61 = .ok (.iaload, 1) := by decide +kernel
theorem dX8_take_62 : decode cX8_take 62 = .ok (.aload_n 0, 1) := by decide +kernel
theorem dX8_take_63 : decode cX8_take 63 = .ok (.getfield 99, 3) := by decide +kernel
theorem dX8_take_66 : decode cX8_take 66 = .ok (.iadd, 1) := by decide +kernel
theorem dX8_take_67 : decode cX8_take 67 = .ok (.iastore, 1) := by decide +kernel
theorem dX8_take_68 : decode cX8_take 68 = .ok (.aload_n 0, 1) := by decide +kernel
theorem dX8_take_69 : decode cX8_take 69 = .ok (.getfield 7, 3) := by decide +kernel
theorem dX8_take_72 : decode cX8_take 72 = .ok (.bipush 40, 2) := by decide +kernel
theorem dX8_take_74 : decode cX8_take 74 = .ok (.dup2, 1) := by decide +kernel
theorem dX8_take_75 : decode cX8_take 75 = .ok (.iaload, 1) := by decide +kernel
theorem dX8_take_76 : decode cX8_take 76 = .ok (.aload_n 0, 1) := by decide +kernel
theorem dX8_take_77 : decode cX8_take 77 = .ok (.getfield 102, 3) := by decide +kernel
theorem dX8_take_80 : decode cX8_take 80 = .ok (.iadd, 1) := by decide +kernel
theorem dX8_take_81 : decode cX8_take 81 = .ok (.iastore, 1) := by decide +kernel
theorem dX8_take_82 : decode cX8_take 82 = .ok (.aload_n 0, 1) := by decide +kernel
theorem dX8_take_83 : decode cX8_take 83 = .ok (.aload_n 0, 1) := by decide +kernel
theorem dX8_take_84 : decode cX8_take 84 = .ok (.getfield 99, 3) := by decide +kernel
theorem dX8_take_87 : decode cX8_take 87 = .ok (.invokevirtual 119, 3) := by decide +kernel
theorem dX8_take_90 : decode cX8_take 90 = .ok (.ireturn, 1) := by decide +kernel
set_option maxRecDepth 20000 in
theorem ggX8_take_X8_acted : GoodIn wsX8_take wsX8_acted := goodIn_r _ [48, 49, 50, 9, 51, 52, 53, 54, 55, 56, 57, 58, 59, 60, 61, 62, 63, 64, 65, 66, 67, 68, 69, 70, 71, 72, 73, 74, 75] (by decide +kernel) (by decide +kernel)
set_option maxRecDepth 20000 in
theorem gX8_take_X8_acted : GoodIn wsX8_take (wsV RX8 119 RX8 yX8_acted wsX8_acted) := goodIn_app (goodIn_of _ (by decide +kernel)) ggX8_take_X8_acted
set_option maxRecDepth 20000 in
theorem ggX8_take_X8_plays : GoodIn wsX8_take wsX8_plays := goodIn_r _ [16, 2, 3, 17, 18, 19, 20, 21, 1, 22, 23, 24, 7, 25, 26, 27, 28, 29, 30, 31, 32, 33, 34, 35, 36, 37, 38, 39, 40, 41, 42, 43, 44, 51, 52, 53, 54, 55, 56, 57, 58, 59, 60, 61, 62, 63, 64, 65, 66, 67, 68, 69, 70, 71, 72, 73, 74, 75] (by decide +kernel) (by decide +kernel)
set_option maxRecDepth 20000 in
theorem gX8_take_X8_plays : GoodIn wsX8_take (wsV RX8 109 RX8 yX8_plays wsX8_plays) := goodIn_app (goodIn_of _ (by decide +kernel)) ggX8_take_X8_plays
set_option maxRecDepth 20000 in
theorem ggX8_take_X8_remember : GoodIn wsX8_take wsX8_remember := goodIn_r _ [8, 1, 9, 10, 11, 7, 12, 51, 52, 53, 54, 55, 56, 57, 58, 59, 60, 61, 62, 63, 64, 65, 66, 67, 68, 69, 70, 71, 72, 73, 74, 75] (by decide +kernel) (by decide +kernel)
set_option maxRecDepth 20000 in
theorem gX8_take_X8_remember : GoodIn wsX8_take (wsV RX8 116 RX8 yX8_remember wsX8_remember) := goodIn_app (goodIn_of _ (by decide +kernel)) ggX8_take_X8_remember
theorem iX8_take_8 : ∀ w ∈ u_ws RX8 TX8 25, w ∈ wsX8_take := fun w h => List.mem_cons_of_mem _ (List.mem_append_right _ (h))
set_option maxHeartbeats 4000000 in
set_option maxRecDepth 100000 in
theorem c_X8_take {E : EE} {l : Launch} {g : GG} {ad : Nat → Nat} (hg : gwf g) {o0 : Nat} {M : Mm} {Q : Int → Mm → Prop} (k_o0 : gk g o0 = 8) (h : p_X8_take g o0 M Q) : Ct E l yX8_take wsX8_take rmX8_take g ad [.ref (ad o0)] M (QI E g ad Q) := by
  refine ent (cc := cX8_take) (maxL := 1) (ret := (some .int)) (own := RX8) (by decide +kernel) rfl rfl (Nat.le_of_ble_eq_true rfl) ?_
  intro p e s m below meth c ls X hr hlk K w hl
  have hl : lv_has ls 1 [(0, .ref (ad o0))] := hl
  unfold p_X8_take at h
  refine lv_aload_n X.1 X.2.1 dX8_take_0 rfl (lv_at hl 0 rfl) ?_
  refine r_getr (N := 25) (T := TX8) X K w iX8_take_8 k_o0 rfl (by decide) 0 (by decide) rfl rfl (List.mem_of_getElem? (i := 1) rfl) dX8_take_1 ?_
  have k1 : gk g (o0 + 1) = 9 := gch hg k_o0 (by decide) 0 (by decide) rfl rfl
  refine r_bipush X dX8_take_4 (by decide +kernel) ?_
  obtain ⟨b1, h⟩ := h
  refine r_iald X K w hg k1 (by decide) b1 dX8_take_6 ?_
  obtain ⟨i0, h1, h2⟩ := h
  refine r_if_ne (tgt := 13) X i0 dX8_take_7 (by decide) (fun cc => ?_) (fun cc => ?_)
  · have h := h1 cc
    refine lv_aload_n X.1 X.2.1 dX8_take_13 rfl (lv_at hl 0 rfl) ?_
    refine q_v (x_V (As := []) (rest := []) X K w (c_X8_remember hg k_o0 h) (cwV 0 X.2.2.2.2 gX8_take_X8_remember rfl rfl rfl (by decide +kernel) ⟨Nat.le_of_ble_eq_true rfl, Nat.le_of_ble_eq_true rfl⟩) k_o0 (by decide) rfl rfl hl rfl (Nat.le_of_ble_eq_true rfl) dX8_take_14 ⟨Nat.le_of_ble_eq_true rfl, Nat.le_of_ble_eq_true rfl⟩) w (fun M2 H locs h w => ?_)
    refine lv_aload_n X.1 X.2.1 dX8_take_17 rfl (lv_at hl 0 rfl) ?_
    refine q_v (x_V (As := []) (rest := []) X K w (c_X8_plays hg k_o0 h) (cwV 0 X.2.2.2.2 gX8_take_X8_plays rfl rfl rfl (by decide +kernel) ⟨Nat.le_of_ble_eq_true rfl, Nat.le_of_ble_eq_true rfl⟩) k_o0 (by decide) rfl rfl hl rfl (Nat.le_of_ble_eq_true rfl) dX8_take_18 ⟨Nat.le_of_ble_eq_true rfl, Nat.le_of_ble_eq_true rfl⟩) w (fun M3 H locs h w => ?_)
    refine lv_aload_n X.1 X.2.1 dX8_take_21 rfl (lv_at hl 0 rfl) ?_
    refine r_getr (N := 25) (T := TX8) X K w iX8_take_8 k_o0 rfl (by decide) 0 (by decide) rfl rfl (List.mem_of_getElem? (i := 1) rfl) dX8_take_22 ?_
    have k4 : gk g (o0 + 1) = 9 := gch hg k_o0 (by decide) 0 (by decide) rfl rfl
    refine r_bipush X dX8_take_25 (by decide +kernel) ?_
    refine lv_dup2_11 X.1 X.2.1 dX8_take_27 rfl rfl ?_
    obtain ⟨b1, h⟩ := h
    refine r_iald X K w hg k4 (by decide) b1 dX8_take_28 ?_
    refine r_iconst X dX8_take_29 ?_
    refine r_iadd X dX8_take_30 ?_
    obtain ⟨b1, h⟩ := h
    refine r_iast X K w hg k4 (by decide) b1 dX8_take_31 (fun M5 H locs e w => ?_)
    replace h := h M5 e
    refine lv_aload_n X.1 X.2.1 dX8_take_32 rfl (lv_at hl 0 rfl) ?_
    refine r_getr (N := 25) (T := TX8) X K w iX8_take_8 k_o0 rfl (by decide) 0 (by decide) rfl rfl (List.mem_of_getElem? (i := 1) rfl) dX8_take_33 ?_
    have k6 : gk g (o0 + 1) = 9 := gch hg k_o0 (by decide) 0 (by decide) rfl rfl
    refine r_bipush X dX8_take_36 (by decide +kernel) ?_
    refine lv_dup2_11 X.1 X.2.1 dX8_take_38 rfl rfl ?_
    obtain ⟨b1, h⟩ := h
    refine r_iald X K w hg k6 (by decide) b1 dX8_take_39 ?_
    refine lv_aload_n X.1 X.2.1 dX8_take_40 rfl (lv_at hl 0 rfl) ?_
    refine r_getr (N := 25) (T := TX8) X K w iX8_take_8 k_o0 rfl (by decide) 0 (by decide) rfl rfl (List.mem_of_getElem? (i := 1) rfl) dX8_take_41 ?_
    have k7 : gk g (o0 + 1) = 9 := gch hg k_o0 (by decide) 0 (by decide) rfl rfl
    refine r_bipush X dX8_take_44 (by decide +kernel) ?_
    obtain ⟨b1, h⟩ := h
    refine r_iald X K w hg k7 (by decide) b1 dX8_take_46 ?_
    refine lv_aload_n X.1 X.2.1 dX8_take_47 rfl (lv_at hl 0 rfl) ?_
    refine r_geti (N := 25) (T := TX8) (kz := 16) X K w iX8_take_8 k_o0 rfl (by decide) 16 (by decide) rfl rfl rfl (List.mem_of_getElem? (i := 2) rfl) dX8_take_48 ?_
    refine r_isub X dX8_take_51 ?_
    refine r_iadd X dX8_take_52 ?_
    obtain ⟨b1, h⟩ := h
    refine r_iast X K w hg k6 (by decide) b1 dX8_take_53 (fun M8 H locs e w => ?_)
    replace h := h M8 e
    refine lv_aload_n X.1 X.2.1 dX8_take_54 rfl (lv_at hl 0 rfl) ?_
    refine r_getr (N := 25) (T := TX8) X K w iX8_take_8 k_o0 rfl (by decide) 0 (by decide) rfl rfl (List.mem_of_getElem? (i := 1) rfl) dX8_take_55 ?_
    have k9 : gk g (o0 + 1) = 9 := gch hg k_o0 (by decide) 0 (by decide) rfl rfl
    refine r_bipush X dX8_take_58 (by decide +kernel) ?_
    refine lv_dup2_11 X.1 X.2.1 dX8_take_60 rfl rfl ?_
    obtain ⟨b1, h⟩ := h
    refine r_iald X K w hg k9 (by decide) b1 dX8_take_61 ?_
    refine lv_aload_n X.1 X.2.1 dX8_take_62 rfl (lv_at hl 0 rfl) ?_
    refine r_geti (N := 25) (T := TX8) (kz := 16) X K w iX8_take_8 k_o0 rfl (by decide) 16 (by decide) rfl rfl rfl (List.mem_of_getElem? (i := 2) rfl) dX8_take_63 ?_
    refine r_iadd X dX8_take_66 ?_
    obtain ⟨b1, h⟩ := h
    refine r_iast X K w hg k9 (by decide) b1 dX8_take_67 (fun M10 H locs e w => ?_)
    replace h := h M10 e
    refine lv_aload_n X.1 X.2.1 dX8_take_68 rfl (lv_at hl 0 rfl) ?_
    refine r_getr (N := 25) (T := TX8) X K w iX8_take_8 k_o0 rfl (by decide) 0 (by decide) rfl rfl (List.mem_of_getElem? (i := 1) rfl) dX8_take_69 ?_
    have k11 : gk g (o0 + 1) = 9 := gch hg k_o0 (by decide) 0 (by decide) rfl rfl
    refine r_bipush X dX8_take_72 (by decide +kernel) ?_
    refine lv_dup2_11 X.1 X.2.1 dX8_take_74 rfl rfl ?_
    obtain ⟨b1, h⟩ := h
    refine r_iald X K w hg k11 (by decide) b1 dX8_take_75 ?_
    refine lv_aload_n X.1 X.2.1 dX8_take_76 rfl (lv_at hl 0 rfl) ?_
    refine r_geti (N := 25) (T := TX8) (kz := 17) X K w iX8_take_8 k_o0 rfl (by decide) 17 (by decide) rfl rfl rfl (List.mem_of_getElem? (i := 3) rfl) dX8_take_77 ?_
    refine r_iadd X dX8_take_80 ?_
    obtain ⟨b1, h⟩ := h
    refine r_iast X K w hg k11 (by decide) b1 dX8_take_81 (fun M12 H locs e w => ?_)
    replace h := h M12 e
    refine lv_aload_n X.1 X.2.1 dX8_take_82 rfl (lv_at hl 0 rfl) ?_
    refine lv_aload_n X.1 X.2.1 dX8_take_83 rfl (lv_at hl 0 rfl) ?_
    refine r_geti (N := 25) (T := TX8) (kz := 16) X K w iX8_take_8 k_o0 rfl (by decide) 16 (by decide) rfl rfl rfl (List.mem_of_getElem? (i := 2) rfl) dX8_take_84 ?_
    refine q_i (x_V (As := [cI (M12 o0 16)]) (rest := []) X K w (c_X8_acted hg k_o0 h) (cwV 1 X.2.2.2.2 gX8_take_X8_acted rfl rfl rfl (by decide +kernel) ⟨Nat.le_of_ble_eq_true rfl, Nat.le_of_ble_eq_true rfl⟩) k_o0 (by decide) rfl rfl hl rfl (Nat.le_of_ble_eq_true rfl) dX8_take_87 ⟨Nat.le_of_ble_eq_true rfl, Nat.le_of_ble_eq_true rfl⟩) w (fun r14 M13 H locs h w => ?_)
    exact r_ireturn X hr hlk K w h dX8_take_90
  · have h := h2 cc
    refine r_bipush X dX8_take_10 (by decide +kernel) ?_
    exact r_ireturn X hr hlk K w h dX8_take_12
theorem dX8_undo_0 : decode cX8_undo 0 = .ok (.aload_n 0, 1) := by decide +kernel
theorem dX8_undo_1 : decode cX8_undo 1 = .ok (.getfield 65, 3) := by decide +kernel
theorem dX8_undo_4 : decode cX8_undo 4 = .ok (.ifCond .ne 6, 3) := by decide +kernel
theorem dX8_undo_7 : decode cX8_undo 7 = .ok (.bipush (-5), 2) := by decide +kernel
theorem dX8_undo_9 : decode cX8_undo 9 = .ok (.ireturn, 1) := by decide +kernel
theorem dX8_undo_10 : decode cX8_undo 10 = .ok (.aload_n 0, 1) := by decide +kernel
theorem dX8_undo_11 : decode cX8_undo 11 = .ok (.dup, 1) := by decide +kernel
theorem dX8_undo_12 : decode cX8_undo 12 = .ok (.getfield 65, 3) := by decide +kernel
theorem dX8_undo_15 : decode cX8_undo 15 = .ok (.iconst 1, 1) := by decide +kernel
theorem dX8_undo_16 : decode cX8_undo 16 = .ok (.isub, 1) := by decide +kernel
theorem dX8_undo_17 : decode cX8_undo 17 = .ok (.putfield 65, 3) := by decide +kernel
theorem dX8_undo_20 : decode cX8_undo 20 = .ok (.iconst 0, 1) := by decide +kernel
theorem dX8_undo_21 : decode cX8_undo 21 = .ok (.istore_n 1, 1) := by decide +kernel
theorem dX8_undo_22 : decode cX8_undo 22 = .ok (.iload_n 1, 1) := by decide +kernel
theorem dX8_undo_23 : decode cX8_undo 23 = .ok (.sipush 201, 3) := by decide +kernel
theorem dX8_undo_26 : decode cX8_undo 26 = .ok (.if_icmp .ge 30, 3) := by decide +kernel
theorem dX8_undo_29 : decode cX8_undo 29 = .ok (.aload_n 0, 1) := by decide +kernel
theorem dX8_undo_30 : decode cX8_undo 30 = .ok (.getfield 7, 3) := by decide +kernel
theorem dX8_undo_33 : decode cX8_undo 33 = .ok (.iload_n 1, 1) := by decide +kernel
theorem dX8_undo_34 : decode cX8_undo 34 = .ok (.aload_n 0, 1) := by decide +kernel
theorem dX8_undo_35 : decode cX8_undo 35 = .ok (.getfield 19, 3) := by decide +kernel
theorem dX8_undo_38 : decode cX8_undo 38 = .ok (.sipush 201, 3) := by decide +kernel
theorem dX8_undo_41 : decode cX8_undo 41 = .ok (.aload_n 0, 1) := by decide +kernel
theorem dX8_undo_42 : decode cX8_undo 42 = .ok (.getfield 65, 3) := by decide +kernel
theorem dX8_undo_45 : decode cX8_undo 45 = .ok (.imul, 1) := by decide +kernel
theorem dX8_undo_46 : decode cX8_undo 46 = .ok (.iload_n 1, 1) := by decide +kernel
theorem dX8_undo_47 : decode cX8_undo 47 = .ok (.iadd, 1) := by decide +kernel
theorem dX8_undo_48 : decode cX8_undo 48 = .ok (.iaload, 1) := by decide +kernel
theorem dX8_undo_49 : decode cX8_undo 49 = .ok (.iastore, 1) := by decide +kernel
theorem dX8_undo_50 : decode cX8_undo 50 = .ok (.iinc 1 1, 3) := by decide +kernel
theorem dX8_undo_53 : decode cX8_undo 53 = .ok (.goto (-31), 3) := by decide +kernel
theorem dX8_undo_56 : decode cX8_undo 56 = .ok (.aload_n 0, 1) := by decide +kernel
theorem dX8_undo_57 : decode cX8_undo 57 = .ok (.getfield 65, 3) := by decide +kernel
theorem dX8_undo_60 : decode cX8_undo 60 = .ok (.ireturn, 1) := by decide +kernel
theorem iX8_undo_8 : ∀ w ∈ u_ws RX8 TX8 25, w ∈ wsX8_undo := fun w h => List.mem_cons_of_mem _ (List.mem_append_right _ (h))
set_option maxHeartbeats 4000000 in
set_option maxRecDepth 100000 in
theorem w_X8_undo_L22 {p : Program} {l : Launch} {e : Env} {s : State} {m : MethodId} {args : Array Value} {below : List Frame} {meth : Method} {c : Code} {E : EE} {g : GG} {ad : Nat → Nat} (hg : gwf g) (X : CallFix p m c cX8_undo 2 s args wsX8_undo RX8) (K : Kn E s) (hr : meth.sig.returnType = (some .int)) (hlk : meth.locks = false) {Q : Int → Mm → Prop} : ∀ (n : Nat) (o0 : Nat) (x1 : Int) (M : Mm) (H : Heap) (locs : List Loc) (ls : Array Slot), gk g o0 = 8 → Rw E g ad M s.heap H locs → lv_has ls 2 [(0, .ref (ad o0)), (1, cI x1)] → p_X8_undo_L22 g n o0 x1 M Q → W p l e rmX8_undo s m args below meth c H locs 0 0 (MQ below (QI E g ad Q) args s 0 0 (Rg g ad)) (F0 m 22 ls []) := by
  intro n
  induction n with
  | zero =>
    intro o0 x1 M H locs ls k_o0 w hl h
    exact absurd h (by unfold p_X8_undo_L22; exact id)
  | succ n ih =>
    intro o0 x1 M H locs ls k_o0 w hl h
    unfold p_X8_undo_L22 at h
    refine lv_iload_n X.1 X.2.1 dX8_undo_22 rfl (lv_at hl 1 rfl) ?_
    refine r_sipush X dX8_undo_23 (by decide +kernel) ?_
    obtain ⟨i0, h1, h2⟩ := h
    refine r_icmp_ge (tgt := 56) X i0 ⟨by decide, by decide⟩ dX8_undo_26 (by decide) (fun cc => ?_) (fun cc => ?_)
    · have h := h1 cc
      refine lv_aload_n X.1 X.2.1 dX8_undo_56 rfl (lv_at hl 0 rfl) ?_
      refine r_geti (N := 25) (T := TX8) (kz := 4) X K w iX8_undo_8 k_o0 rfl (by decide) 4 (by decide) rfl rfl rfl (List.mem_of_getElem? (i := 1) rfl) dX8_undo_57 ?_
      exact r_ireturn X hr hlk K w h dX8_undo_60
    · have h := h2 cc
      refine lv_aload_n X.1 X.2.1 dX8_undo_29 rfl (lv_at hl 0 rfl) ?_
      refine r_getr (N := 25) (T := TX8) X K w iX8_undo_8 k_o0 rfl (by decide) 0 (by decide) rfl rfl (List.mem_of_getElem? (i := 2) rfl) dX8_undo_30 ?_
      have k2 : gk g (o0 + 1) = 9 := gch hg k_o0 (by decide) 0 (by decide) rfl rfl
      refine lv_iload_n X.1 X.2.1 dX8_undo_33 rfl (lv_at hl 1 rfl) ?_
      refine lv_aload_n X.1 X.2.1 dX8_undo_34 rfl (lv_at hl 0 rfl) ?_
      refine r_getr (N := 25) (T := TX8) X K w iX8_undo_8 k_o0 rfl (by decide) 3 (by decide) rfl rfl (List.mem_of_getElem? (i := 3) rfl) dX8_undo_35 ?_
      have k3 : gk g (o0 + 4) = 9 := gch hg k_o0 (by decide) 3 (by decide) rfl rfl
      refine r_sipush X dX8_undo_38 (by decide +kernel) ?_
      refine lv_aload_n X.1 X.2.1 dX8_undo_41 rfl (lv_at hl 0 rfl) ?_
      refine r_geti (N := 25) (T := TX8) (kz := 4) X K w iX8_undo_8 k_o0 rfl (by decide) 4 (by decide) rfl rfl rfl (List.mem_of_getElem? (i := 1) rfl) dX8_undo_42 ?_
      refine r_imul X dX8_undo_45 ?_
      refine lv_iload_n X.1 X.2.1 dX8_undo_46 rfl (lv_at hl 1 rfl) ?_
      refine r_iadd X dX8_undo_47 ?_
      obtain ⟨b0, b1, h⟩ := h
      refine r_iald X K w hg k3 b0 b1 dX8_undo_48 ?_
      obtain ⟨b0, b1, h⟩ := h
      refine r_iast X K w hg k2 b0 b1 dX8_undo_49 (fun M4 H locs e w => ?_)
      replace h := h M4 e
      refine r_iinc (lv' := [(1, cI (x1 + 1)), (0, .ref (ad o0))]) X hl (k := 1) rfl (by decide) dX8_undo_50 rfl (fun ls hl => ?_)
      refine lv_goto (tgt := 22) X.1 X.2.1 dX8_undo_53 (by decide) ?_
      exact ih o0 (x1 + 1) M4 _ _ _ k_o0 w (lv_sub hl [1, 0] rfl) h
set_option maxHeartbeats 4000000 in
set_option maxRecDepth 100000 in
theorem c_X8_undo {E : EE} {l : Launch} {g : GG} {ad : Nat → Nat} (hg : gwf g) {o0 : Nat} {M : Mm} {Q : Int → Mm → Prop} (k_o0 : gk g o0 = 8) (h : p_X8_undo g o0 M Q) : Ct E l yX8_undo wsX8_undo rmX8_undo g ad [.ref (ad o0)] M (QI E g ad Q) := by
  refine ent (cc := cX8_undo) (maxL := 2) (ret := (some .int)) (own := RX8) (by decide +kernel) rfl rfl (Nat.le_of_ble_eq_true rfl) ?_
  intro p e s m below meth c ls X hr hlk K w hl
  have hl : lv_has ls 2 [(0, .ref (ad o0))] := hl
  unfold p_X8_undo at h
  refine lv_aload_n X.1 X.2.1 dX8_undo_0 rfl (lv_at hl 0 rfl) ?_
  refine r_geti (N := 25) (T := TX8) (kz := 4) X K w iX8_undo_8 k_o0 rfl (by decide) 4 (by decide) rfl rfl rfl (List.mem_of_getElem? (i := 1) rfl) dX8_undo_1 ?_
  obtain ⟨i0, h1, h2⟩ := h
  refine r_if_ne (tgt := 10) X i0 dX8_undo_4 (by decide) (fun cc => ?_) (fun cc => ?_)
  · have h := h1 cc
    refine lv_aload_n X.1 X.2.1 dX8_undo_10 rfl (lv_at hl 0 rfl) ?_
    refine lv_dup X.1 X.2.1 dX8_undo_11 rfl ?_
    refine r_geti (N := 25) (T := TX8) (kz := 4) X K w iX8_undo_8 k_o0 rfl (by decide) 4 (by decide) rfl rfl rfl (List.mem_of_getElem? (i := 1) rfl) dX8_undo_12 ?_
    refine r_iconst X dX8_undo_15 ?_
    refine r_isub X dX8_undo_16 ?_
    refine r_puti (N := 25) (T := TX8) (kz := 4) (ty := .int) X K w iX8_undo_8 tyX8 tyX8_ok nmX8 k_o0 rfl (by decide) 4 (by decide) rfl rfl rfl rfl (by decide +kernel) rfl rfl (List.mem_of_getElem? (i := 1) rfl) dX8_undo_17 (fun M1 H locs e w => ?_)
    replace h := h M1 e
    refine r_iconst X dX8_undo_20 ?_
    refine lv_istore_n (lv' := [(1, cI 0), (0, .ref (ad o0))]) X.1 X.2.1 dX8_undo_21 rfl hl (by decide) rfl (fun ls hl => ?_)
    obtain ⟨n5, h⟩ := h
    exact w_X8_undo_L22 hg X K hr hlk n5 o0 0 M1 _ _ _ k_o0 w (lv_sub hl [1, 0] rfl) h
  · have h := h2 cc
    refine r_bipush X dX8_undo_7 (by decide +kernel) ?_
    exact r_ireturn X hr hlk K w h dX8_undo_9
theorem dX8_keep_0 : decode cX8_keep 0 = .ok (.aload_n 0, 1) := by decide +kernel
theorem dX8_keep_1 : decode cX8_keep 1 = .ok (.getfield 7, 3) := by decide +kernel
theorem dX8_keep_4 : decode cX8_keep 4 = .ok (.aload_n 0, 1) := by decide +kernel
theorem dX8_keep_5 : decode cX8_keep 5 = .ok (.getfield 22, 3) := by decide +kernel
theorem dX8_keep_8 : decode cX8_keep 8 = .ok (.invokestatic 61, 3) := by decide +kernel
theorem dX8_keep_11 : decode cX8_keep 11 = .ok (.aload_n 0, 1) := by decide +kernel
theorem dX8_keep_12 : decode cX8_keep 12 = .ok (.iconst 1, 1) := by decide +kernel
theorem dX8_keep_13 : decode cX8_keep 13 = .ok (.putfield 203, 3) := by decide +kernel
theorem dX8_keep_16 : decode cX8_keep 16 = .ok (.aload_n 0, 1) := by decide +kernel
theorem dX8_keep_17 : decode cX8_keep 17 = .ok (.getfield 7, 3) := by decide +kernel
theorem dX8_keep_20 : decode cX8_keep 20 = .ok (.bipush 36, 2) := by decide +kernel
theorem dX8_keep_22 : decode cX8_keep 22 = .ok (.iaload, 1) := by decide +kernel
theorem dX8_keep_23 : decode cX8_keep 23 = .ok (.ireturn, 1) := by decide +kernel
set_option maxRecDepth 20000 in
theorem ggX8_keep_X8_copy : GoodIn wsX8_keep wsX8_copy := goodIn_r _ [7] (by decide +kernel) (by decide +kernel)
set_option maxRecDepth 20000 in
theorem gX8_keep_X8_copy : GoodIn wsX8_keep (va_wsS RX8 61 yX8_copy wsX8_copy) := goodIn_app (goodIn_of _ (by decide +kernel)) ggX8_keep_X8_copy
theorem iX8_keep_8 : ∀ w ∈ u_ws RX8 TX8 25, w ∈ wsX8_keep := fun w h => List.mem_cons_of_mem _ (List.mem_append_right _ (h))
set_option maxHeartbeats 4000000 in
set_option maxRecDepth 100000 in
theorem c_X8_keep {E : EE} {l : Launch} {g : GG} {ad : Nat → Nat} (hg : gwf g) {o0 : Nat} {M : Mm} {Q : Int → Mm → Prop} (k_o0 : gk g o0 = 8) (h : p_X8_keep g o0 M Q) : Ct E l yX8_keep wsX8_keep rmX8_keep g ad [.ref (ad o0)] M (QI E g ad Q) := by
  refine ent (cc := cX8_keep) (maxL := 1) (ret := (some .int)) (own := RX8) (by decide +kernel) rfl rfl (Nat.le_of_ble_eq_true rfl) ?_
  intro p e s m below meth c ls X hr hlk K w hl
  have hl : lv_has ls 1 [(0, .ref (ad o0))] := hl
  unfold p_X8_keep at h
  refine lv_aload_n X.1 X.2.1 dX8_keep_0 rfl (lv_at hl 0 rfl) ?_
  refine r_getr (N := 25) (T := TX8) X K w iX8_keep_8 k_o0 rfl (by decide) 0 (by decide) rfl rfl (List.mem_of_getElem? (i := 1) rfl) dX8_keep_1 ?_
  have k1 : gk g (o0 + 1) = 9 := gch hg k_o0 (by decide) 0 (by decide) rfl rfl
  refine lv_aload_n X.1 X.2.1 dX8_keep_4 rfl (lv_at hl 0 rfl) ?_
  refine r_getr (N := 25) (T := TX8) X K w iX8_keep_8 k_o0 rfl (by decide) 5 (by decide) rfl rfl (List.mem_of_getElem? (i := 2) rfl) dX8_keep_5 ?_
  have k2 : gk g (o0 + 5) = 9 := gch hg k_o0 (by decide) 5 (by decide) rfl rfl
  refine q_v (x_S (As := [.ref (ad (o0 + 1)), .ref (ad (o0 + 5))]) (rest := []) X K w (c_X8_copy hg k1 k2 h) (va_cwS 2 X.2.2.2.2 gX8_keep_X8_copy rfl rfl rfl (by decide +kernel) ⟨Nat.le_of_ble_eq_true rfl, Nat.le_of_ble_eq_true rfl⟩) rfl hl rfl (Nat.le_of_ble_eq_true rfl) dX8_keep_8 ⟨Nat.le_of_ble_eq_true rfl, Nat.le_of_ble_eq_true rfl⟩) w (fun M3 H locs h w => ?_)
  refine lv_aload_n X.1 X.2.1 dX8_keep_11 rfl (lv_at hl 0 rfl) ?_
  refine r_iconst X dX8_keep_12 ?_
  refine r_puti (N := 25) (T := TX8) (kz := 6) (ty := .int) X K w iX8_keep_8 tyX8 tyX8_ok nmX8 k_o0 rfl (by decide) 6 (by decide) rfl rfl rfl rfl (by decide +kernel) rfl rfl (List.mem_of_getElem? (i := 3) rfl) dX8_keep_13 (fun M4 H locs e w => ?_)
  replace h := h M4 e
  refine lv_aload_n X.1 X.2.1 dX8_keep_16 rfl (lv_at hl 0 rfl) ?_
  refine r_getr (N := 25) (T := TX8) X K w iX8_keep_8 k_o0 rfl (by decide) 0 (by decide) rfl rfl (List.mem_of_getElem? (i := 1) rfl) dX8_keep_17 ?_
  have k5 : gk g (o0 + 1) = 9 := gch hg k_o0 (by decide) 0 (by decide) rfl rfl
  refine r_bipush X dX8_keep_20 (by decide +kernel) ?_
  obtain ⟨b1, h⟩ := h
  refine r_iald X K w hg k5 (by decide) b1 dX8_keep_22 ?_
  exact r_ireturn X hr hlk K w h dX8_keep_23
theorem dX8_restore_0 : decode cX8_restore 0 = .ok (.aload_n 0, 1) := by decide +kernel
theorem dX8_restore_1 : decode cX8_restore 1 = .ok (.getfield 203, 3) := by decide +kernel
theorem dX8_restore_4 : decode cX8_restore 4 = .ok (.ifCond .ne 6, 3) := by decide +kernel
theorem dX8_restore_7 : decode cX8_restore 7 = .ok (.bipush (-5), 2) := by decide +kernel
theorem dX8_restore_9 : decode cX8_restore 9 = .ok (.ireturn, 1) := by decide +kernel
theorem dX8_restore_10 : decode cX8_restore 10 = .ok (.aload_n 0, 1) := by decide +kernel
theorem dX8_restore_11 : decode cX8_restore 11 = .ok (.invokevirtual 116, 3) := by decide +kernel
theorem dX8_restore_14 : decode cX8_restore 14 = .ok (.aload_n 0, 1) := by decide +kernel
theorem dX8_restore_15 : decode cX8_restore 15 = .ok (.getfield 22, 3) := by decide +kernel
theorem dX8_restore_18 : decode cX8_restore 18 = .ok (.aload_n 0, 1) := by decide +kernel
theorem dX8_restore_19 : decode cX8_restore 19 = .ok (.getfield 7, 3) := by decide +kernel
theorem dX8_restore_22 : decode cX8_restore 22 = .ok (.invokestatic 61, 3) := by decide +kernel
theorem dX8_restore_25 : decode cX8_restore 25 = .ok (.aload_n 0, 1) := by decide +kernel
theorem dX8_restore_26 : decode cX8_restore 26 = .ok (.aload_n 0, 1) := by decide +kernel
theorem dX8_restore_27 : decode cX8_restore 27 = .ok (.getfield 7, 3) := by decide +kernel
theorem dX8_restore_30 : decode cX8_restore 30 = .ok (.bipush 36, 2) := by decide +kernel
theorem dX8_restore_32 : decode cX8_restore 32 = .ok (.iaload, 1) := by decide +kernel
theorem dX8_restore_33 : decode cX8_restore 33 = .ok (.invokevirtual 119, 3) := by decide +kernel
theorem dX8_restore_36 : decode cX8_restore 36 = .ok (.ireturn, 1) := by decide +kernel
set_option maxRecDepth 20000 in
theorem ggX8_restore_X8_acted : GoodIn wsX8_restore wsX8_acted := goodIn_r _ [16, 17, 18, 9, 19, 20, 21, 22, 23, 24, 25, 26, 27, 28, 29, 30, 31, 32, 33, 34, 35, 36, 37, 38, 39, 40, 41, 42, 43] (by decide +kernel) (by decide +kernel)
set_option maxRecDepth 20000 in
theorem gX8_restore_X8_acted : GoodIn wsX8_restore (wsV RX8 119 RX8 yX8_acted wsX8_acted) := goodIn_app (goodIn_of _ (by decide +kernel)) ggX8_restore_X8_acted
set_option maxRecDepth 20000 in
theorem ggX8_restore_X8_copy : GoodIn wsX8_restore wsX8_copy := goodIn_r _ [12] (by decide +kernel) (by decide +kernel)
set_option maxRecDepth 20000 in
theorem gX8_restore_X8_copy : GoodIn wsX8_restore (va_wsS RX8 61 yX8_copy wsX8_copy) := goodIn_app (goodIn_of _ (by decide +kernel)) ggX8_restore_X8_copy
set_option maxRecDepth 20000 in
theorem ggX8_restore_X8_remember : GoodIn wsX8_restore wsX8_remember := goodIn_r _ [8, 3, 9, 10, 11, 7, 12, 19, 20, 21, 22, 23, 24, 25, 26, 27, 28, 29, 30, 31, 32, 33, 34, 35, 36, 37, 38, 39, 40, 41, 42, 43] (by decide +kernel) (by decide +kernel)
set_option maxRecDepth 20000 in
theorem gX8_restore_X8_remember : GoodIn wsX8_restore (wsV RX8 116 RX8 yX8_remember wsX8_remember) := goodIn_app (goodIn_of _ (by decide +kernel)) ggX8_restore_X8_remember
theorem iX8_restore_8 : ∀ w ∈ u_ws RX8 TX8 25, w ∈ wsX8_restore := fun w h => List.mem_cons_of_mem _ (List.mem_append_right _ (h))
set_option maxHeartbeats 4000000 in
set_option maxRecDepth 100000 in
theorem c_X8_restore {E : EE} {l : Launch} {g : GG} {ad : Nat → Nat} (hg : gwf g) {o0 : Nat} {M : Mm} {Q : Int → Mm → Prop} (k_o0 : gk g o0 = 8) (h : p_X8_restore g o0 M Q) : Ct E l yX8_restore wsX8_restore rmX8_restore g ad [.ref (ad o0)] M (QI E g ad Q) := by
  refine ent (cc := cX8_restore) (maxL := 1) (ret := (some .int)) (own := RX8) (by decide +kernel) rfl rfl (Nat.le_of_ble_eq_true rfl) ?_
  intro p e s m below meth c ls X hr hlk K w hl
  have hl : lv_has ls 1 [(0, .ref (ad o0))] := hl
  unfold p_X8_restore at h
  refine lv_aload_n X.1 X.2.1 dX8_restore_0 rfl (lv_at hl 0 rfl) ?_
  refine r_geti (N := 25) (T := TX8) (kz := 6) X K w iX8_restore_8 k_o0 rfl (by decide) 6 (by decide) rfl rfl rfl (List.mem_of_getElem? (i := 1) rfl) dX8_restore_1 ?_
  obtain ⟨i0, h1, h2⟩ := h
  refine r_if_ne (tgt := 10) X i0 dX8_restore_4 (by decide) (fun cc => ?_) (fun cc => ?_)
  · have h := h1 cc
    refine lv_aload_n X.1 X.2.1 dX8_restore_10 rfl (lv_at hl 0 rfl) ?_
    refine q_v (x_V (As := []) (rest := []) X K w (c_X8_remember hg k_o0 h) (cwV 0 X.2.2.2.2 gX8_restore_X8_remember rfl rfl rfl (by decide +kernel) ⟨Nat.le_of_ble_eq_true rfl, Nat.le_of_ble_eq_true rfl⟩) k_o0 (by decide) rfl rfl hl rfl (Nat.le_of_ble_eq_true rfl) dX8_restore_11 ⟨Nat.le_of_ble_eq_true rfl, Nat.le_of_ble_eq_true rfl⟩) w (fun M1 H locs h w => ?_)
    refine lv_aload_n X.1 X.2.1 dX8_restore_14 rfl (lv_at hl 0 rfl) ?_
    refine r_getr (N := 25) (T := TX8) X K w iX8_restore_8 k_o0 rfl (by decide) 5 (by decide) rfl rfl (List.mem_of_getElem? (i := 2) rfl) dX8_restore_15 ?_
    have k2 : gk g (o0 + 5) = 9 := gch hg k_o0 (by decide) 5 (by decide) rfl rfl
    refine lv_aload_n X.1 X.2.1 dX8_restore_18 rfl (lv_at hl 0 rfl) ?_
    refine r_getr (N := 25) (T := TX8) X K w iX8_restore_8 k_o0 rfl (by decide) 0 (by decide) rfl rfl (List.mem_of_getElem? (i := 3) rfl) dX8_restore_19 ?_
    have k3 : gk g (o0 + 1) = 9 := gch hg k_o0 (by decide) 0 (by decide) rfl rfl
    refine q_v (x_S (As := [.ref (ad (o0 + 5)), .ref (ad (o0 + 1))]) (rest := []) X K w (c_X8_copy hg k2 k3 h) (va_cwS 2 X.2.2.2.2 gX8_restore_X8_copy rfl rfl rfl (by decide +kernel) ⟨Nat.le_of_ble_eq_true rfl, Nat.le_of_ble_eq_true rfl⟩) rfl hl rfl (Nat.le_of_ble_eq_true rfl) dX8_restore_22 ⟨Nat.le_of_ble_eq_true rfl, Nat.le_of_ble_eq_true rfl⟩) w (fun M4 H locs h w => ?_)
    refine lv_aload_n X.1 X.2.1 dX8_restore_25 rfl (lv_at hl 0 rfl) ?_
    refine lv_aload_n X.1 X.2.1 dX8_restore_26 rfl (lv_at hl 0 rfl) ?_
    refine r_getr (N := 25) (T := TX8) X K w iX8_restore_8 k_o0 rfl (by decide) 0 (by decide) rfl rfl (List.mem_of_getElem? (i := 3) rfl) dX8_restore_27 ?_
    have k5 : gk g (o0 + 1) = 9 := gch hg k_o0 (by decide) 0 (by decide) rfl rfl
    refine r_bipush X dX8_restore_30 (by decide +kernel) ?_
    obtain ⟨b1, h⟩ := h
    refine r_iald X K w hg k5 (by decide) b1 dX8_restore_32 ?_
    refine q_i (x_V (As := [cI (M4 (o0 + 1) 36)]) (rest := []) X K w (c_X8_acted hg k_o0 h) (cwV 1 X.2.2.2.2 gX8_restore_X8_acted rfl rfl rfl (by decide +kernel) ⟨Nat.le_of_ble_eq_true rfl, Nat.le_of_ble_eq_true rfl⟩) k_o0 (by decide) rfl rfl hl rfl (Nat.le_of_ble_eq_true rfl) dX8_restore_33 ⟨Nat.le_of_ble_eq_true rfl, Nat.le_of_ble_eq_true rfl⟩) w (fun r7 M6 H locs h w => ?_)
    exact r_ireturn X hr hlk K w h dX8_restore_36
  · have h := h2 cc
    refine r_bipush X dX8_restore_7 (by decide +kernel) ?_
    exact r_ireturn X hr hlk K w h dX8_restore_9
theorem dX8_cuesOfSound_0 : decode cX8_cuesOfSound 0 = .ok (.aload_n 0, 1) := by decide +kernel
theorem dX8_cuesOfSound_1 : decode cX8_cuesOfSound 1 = .ok (.invokevirtual 206, 3) := by decide +kernel
theorem dX8_cuesOfSound_4 : decode cX8_cuesOfSound 4 = .ok (.iconst 0, 1) := by decide +kernel
theorem dX8_cuesOfSound_5 : decode cX8_cuesOfSound 5 = .ok (.istore_n 3, 1) := by decide +kernel
theorem dX8_cuesOfSound_6 : decode cX8_cuesOfSound 6 = .ok (.iconst 0, 1) := by decide +kernel
theorem dX8_cuesOfSound_7 : decode cX8_cuesOfSound 7 = .ok (.istore 4, 2) := by decide +kernel
theorem dX8_cuesOfSound_9 : decode cX8_cuesOfSound 9 = .ok (.iload 4, 2) := by decide +kernel
theorem dX8_cuesOfSound_11 : decode cX8_cuesOfSound 11 = .ok (.aload_n 0, 1) := by decide +kernel
theorem dX8_cuesOfSound_12 : decode cX8_cuesOfSound 12 = .ok (.getfield 7, 3) := by decide +kernel
theorem dX8_cuesOfSound_15 : decode cX8_cuesOfSound 15 = .ok (.bipush 36, 2) := by decide +kernel
theorem dX8_cuesOfSound_17 : decode cX8_cuesOfSound 17 = .ok (.iaload, 1) := by decide +kernel
theorem dX8_cuesOfSound_18 : decode cX8_cuesOfSound 18 = .ok (.if_icmp .ge 42, 3) := by decide +kernel
theorem dX8_cuesOfSound_21 : decode cX8_cuesOfSound 21 = .ok (.iload_n 3, 1) := by decide +kernel
theorem dX8_cuesOfSound_22 : decode cX8_cuesOfSound 22 = .ok (.aload_n 0, 1) := by decide +kernel
theorem dX8_cuesOfSound_23 : decode cX8_cuesOfSound 23 = .ok (.iload 4, 2) := by decide +kernel
theorem dX8_cuesOfSound_25 : decode cX8_cuesOfSound 25 = .ok (.iconst 2, 1) := by decide +kernel
theorem dX8_cuesOfSound_26 : decode cX8_cuesOfSound 26 = .ok (.invokevirtual 77, 3) := by decide +kernel
theorem dX8_cuesOfSound_29 : decode cX8_cuesOfSound 29 = .ok (.iload_n 1, 1) := by decide +kernel
theorem dX8_cuesOfSound_30 : decode cX8_cuesOfSound 30 = .ok (.if_icmp .ne 21, 3) := by decide +kernel
theorem dX8_cuesOfSound_33 : decode cX8_cuesOfSound 33 = .ok (.iload_n 2, 1) := by decide +kernel
theorem dX8_cuesOfSound_34 : decode cX8_cuesOfSound 34 = .ok (.ifCond .eq 13, 3) := by decide +kernel
theorem dX8_cuesOfSound_37 : decode cX8_cuesOfSound 37 = .ok (.aload_n 0, 1) := by decide +kernel
theorem dX8_cuesOfSound_38 : decode cX8_cuesOfSound 38 = .ok (.getfield 28, 3) := by decide +kernel
theorem dX8_cuesOfSound_41 : decode cX8_cuesOfSound 41 = .ok (.iload 4, 2) := by decide +kernel
theorem dX8_cuesOfSound_43 : decode cX8_cuesOfSound 43 = .ok (.iaload, 1) := by decide +kernel
theorem dX8_cuesOfSound_44 : decode cX8_cuesOfSound 44 = .ok (.ifCond .ne 7, 3) := by decide +kernel
theorem dX8_cuesOfSound_47 : decode cX8_cuesOfSound 47 = .ok (.iconst 1, 1) := by decide +kernel
theorem dX8_cuesOfSound_48 : decode cX8_cuesOfSound 48 = .ok (.goto 4, 3) := by decide +kernel
theorem dX8_cuesOfSound_51 : decode cX8_cuesOfSound 51 = .ok (.iconst 0, 1) := by decide +kernel
theorem dX8_cuesOfSound_52 : decode cX8_cuesOfSound 52 = .ok (.iadd, 1) := by decide +kernel
theorem dX8_cuesOfSound_53 : decode cX8_cuesOfSound 53 = .ok (.istore_n 3, 1) := by decide +kernel
theorem dX8_cuesOfSound_54 : decode cX8_cuesOfSound 54 = .ok (.iinc 4 1, 3) := by decide +kernel
theorem dX8_cuesOfSound_57 : decode cX8_cuesOfSound 57 = .ok (.goto (-48), 3) := by decide +kernel
theorem dX8_cuesOfSound_60 : decode cX8_cuesOfSound 60 = .ok (.iload_n 3, 1) := by decide +kernel
theorem dX8_cuesOfSound_61 : decode cX8_cuesOfSound 61 = .ok (.ireturn, 1) := by decide +kernel
set_option maxRecDepth 20000 in
theorem ggX8_cuesOfSound_X8_of : GoodIn wsX8_cuesOfSound wsX8_of := goodIn_r _ [34, 1, 46, 47, 48, 49, 50, 51, 52, 53, 54, 55, 56, 57, 58, 59, 60, 61, 62, 63, 64, 65, 66, 67, 68, 69, 70] (by decide +kernel) (by decide +kernel)
set_option maxRecDepth 20000 in
theorem gX8_cuesOfSound_X8_of : GoodIn wsX8_cuesOfSound (wsV RX8 77 RX8 yX8_of wsX8_of) := goodIn_app (goodIn_of _ (by decide +kernel)) ggX8_cuesOfSound_X8_of
set_option maxRecDepth 20000 in
theorem ggX8_cuesOfSound_X8_tries : GoodIn wsX8_cuesOfSound wsX8_tries := goodIn_r _ [7, 1, 8, 9, 10, 11, 6, 12, 13, 14, 15, 16, 17, 18, 19, 20, 21, 22, 23, 24, 25, 26, 27, 28, 29, 30, 2, 31, 32, 33, 34, 35, 36, 37, 38, 39, 40, 41, 42, 43, 44, 45, 46, 47, 48, 49, 50, 51, 52, 53, 54, 55, 56, 57, 58, 59, 60, 61, 62, 63, 64, 65, 66, 67, 68, 69, 70] (by decide +kernel) (by decide +kernel)
set_option maxRecDepth 20000 in
theorem gX8_cuesOfSound_X8_tries : GoodIn wsX8_cuesOfSound (wsV RX8 206 RX8 yX8_tries wsX8_tries) := goodIn_app (goodIn_of _ (by decide +kernel)) ggX8_cuesOfSound_X8_tries
theorem iX8_cuesOfSound_8 : ∀ w ∈ u_ws RX8 TX8 25, w ∈ wsX8_cuesOfSound := fun w h => List.mem_cons_of_mem _ (List.mem_append_right _ (h))
set_option maxHeartbeats 4000000 in
set_option maxRecDepth 100000 in
theorem w_X8_cuesOfSound_L9 {p : Program} {l : Launch} {e : Env} {s : State} {m : MethodId} {args : Array Value} {below : List Frame} {meth : Method} {c : Code} {E : EE} {g : GG} {ad : Nat → Nat} (hg : gwf g) (X : CallFix p m c cX8_cuesOfSound 5 s args wsX8_cuesOfSound RX8) (K : Kn E s) (hr : meth.sig.returnType = (some .int)) (hlk : meth.locks = false) {Q : Int → Mm → Prop} : ∀ (n : Nat) (o0 : Nat) (x1 : Int) (x2 : Int) (x3 : Int) (x4 : Int) (M : Mm) (H : Heap) (locs : List Loc) (ls : Array Slot), gk g o0 = 8 → Rw E g ad M s.heap H locs → lv_has ls 5 [(0, .ref (ad o0)), (1, cI x1), (2, cI x2), (3, cI x3), (4, cI x4)] → p_X8_cuesOfSound_L9 g n o0 x1 x2 x3 x4 M Q → W p l e rmX8_cuesOfSound s m args below meth c H locs 0 0 (MQ below (QI E g ad Q) args s 0 0 (Rg g ad)) (F0 m 9 ls []) := by
  intro n
  induction n with
  | zero =>
    intro o0 x1 x2 x3 x4 M H locs ls k_o0 w hl h
    exact absurd h (by unfold p_X8_cuesOfSound_L9; exact id)
  | succ n ih =>
    intro o0 x1 x2 x3 x4 M H locs ls k_o0 w hl h
    unfold p_X8_cuesOfSound_L9 at h
    refine lv_iload X.1 X.2.1 dX8_cuesOfSound_9 (lv_at hl 4 rfl) ?_
    refine lv_aload_n X.1 X.2.1 dX8_cuesOfSound_11 rfl (lv_at hl 0 rfl) ?_
    refine r_getr (N := 25) (T := TX8) X K w iX8_cuesOfSound_8 k_o0 rfl (by decide) 0 (by decide) rfl rfl (List.mem_of_getElem? (i := 1) rfl) dX8_cuesOfSound_12 ?_
    have k2 : gk g (o0 + 1) = 9 := gch hg k_o0 (by decide) 0 (by decide) rfl rfl
    refine r_bipush X dX8_cuesOfSound_15 (by decide +kernel) ?_
    obtain ⟨b1, h⟩ := h
    refine r_iald X K w hg k2 (by decide) b1 dX8_cuesOfSound_17 ?_
    obtain ⟨i0, i1, h1, h2⟩ := h
    refine r_icmp_ge (tgt := 60) X i0 i1 dX8_cuesOfSound_18 (by decide) (fun cc => ?_) (fun cc => ?_)
    · have h := h1 cc
      refine lv_iload_n X.1 X.2.1 dX8_cuesOfSound_60 rfl (lv_at hl 3 rfl) ?_
      exact r_ireturn X hr hlk K w h dX8_cuesOfSound_61
    · have h := h2 cc
      refine lv_iload_n X.1 X.2.1 dX8_cuesOfSound_21 rfl (lv_at hl 3 rfl) ?_
      refine lv_aload_n X.1 X.2.1 dX8_cuesOfSound_22 rfl (lv_at hl 0 rfl) ?_
      refine lv_iload X.1 X.2.1 dX8_cuesOfSound_23 (lv_at hl 4 rfl) ?_
      refine r_iconst X dX8_cuesOfSound_25 ?_
      refine q_i (x_V (As := [cI x4, cI 2]) (rest := [cI x3]) X K w (c_X8_of hg k_o0 h) (cwV 2 X.2.2.2.2 gX8_cuesOfSound_X8_of rfl rfl rfl (by decide +kernel) ⟨Nat.le_of_ble_eq_true rfl, Nat.le_of_ble_eq_true rfl⟩) k_o0 (by decide) rfl rfl hl rfl (Nat.le_of_ble_eq_true rfl) dX8_cuesOfSound_26 ⟨Nat.le_of_ble_eq_true rfl, Nat.le_of_ble_eq_true rfl⟩) w (fun r4 M3 H locs h w => ?_)
      refine lv_iload_n X.1 X.2.1 dX8_cuesOfSound_29 rfl (lv_at hl 1 rfl) ?_
      obtain ⟨i0, i1, h1, h2⟩ := h
      refine r_icmp_ne (tgt := 51) X i0 i1 dX8_cuesOfSound_30 (by decide) (fun cc => ?_) (fun cc => ?_)
      · have h := h1 cc
        refine r_iconst X dX8_cuesOfSound_51 ?_
        refine r_iadd X dX8_cuesOfSound_52 ?_
        refine lv_istore_n (lv' := [(3, cI (x3 + 0)), (0, .ref (ad o0)), (1, cI x1), (2, cI x2), (4, cI x4)]) X.1 X.2.1 dX8_cuesOfSound_53 rfl hl (by decide) rfl (fun ls hl => ?_)
        refine r_iinc (lv' := [(4, cI (x4 + 1)), (3, cI (x3 + 0)), (0, .ref (ad o0)), (1, cI x1), (2, cI x2)]) X hl (k := 4) rfl (by decide) dX8_cuesOfSound_54 rfl (fun ls hl => ?_)
        refine lv_goto (tgt := 9) X.1 X.2.1 dX8_cuesOfSound_57 (by decide) ?_
        exact ih o0 x1 x2 (x3 + 0) (x4 + 1) M3 _ _ _ k_o0 w (lv_sub hl [2, 3, 4, 1, 0] rfl) h
      · have h := h2 cc
        refine lv_iload_n X.1 X.2.1 dX8_cuesOfSound_33 rfl (lv_at hl 2 rfl) ?_
        obtain ⟨i0, h1, h2⟩ := h
        refine r_if_eq (tgt := 47) X i0 dX8_cuesOfSound_34 (by decide) (fun cc => ?_) (fun cc => ?_)
        · have h := h1 cc
          refine r_iconst X dX8_cuesOfSound_47 ?_
          refine lv_goto (tgt := 52) X.1 X.2.1 dX8_cuesOfSound_48 (by decide) ?_
          refine r_iadd X dX8_cuesOfSound_52 ?_
          refine lv_istore_n (lv' := [(3, cI (x3 + 1)), (0, .ref (ad o0)), (1, cI x1), (2, cI x2), (4, cI x4)]) X.1 X.2.1 dX8_cuesOfSound_53 rfl hl (by decide) rfl (fun ls hl => ?_)
          refine r_iinc (lv' := [(4, cI (x4 + 1)), (3, cI (x3 + 1)), (0, .ref (ad o0)), (1, cI x1), (2, cI x2)]) X hl (k := 4) rfl (by decide) dX8_cuesOfSound_54 rfl (fun ls hl => ?_)
          refine lv_goto (tgt := 9) X.1 X.2.1 dX8_cuesOfSound_57 (by decide) ?_
          exact ih o0 x1 x2 (x3 + 1) (x4 + 1) M3 _ _ _ k_o0 w (lv_sub hl [2, 3, 4, 1, 0] rfl) h
        · have h := h2 cc
          refine lv_aload_n X.1 X.2.1 dX8_cuesOfSound_37 rfl (lv_at hl 0 rfl) ?_
          refine r_getr (N := 25) (T := TX8) X K w iX8_cuesOfSound_8 k_o0 rfl (by decide) 8 (by decide) rfl rfl (List.mem_of_getElem? (i := 2) rfl) dX8_cuesOfSound_38 ?_
          have k5 : gk g (o0 + 7) = 9 := gch hg k_o0 (by decide) 8 (by decide) rfl rfl
          refine lv_iload X.1 X.2.1 dX8_cuesOfSound_41 (lv_at hl 4 rfl) ?_
          obtain ⟨b0, b1, h⟩ := h
          refine r_iald X K w hg k5 b0 b1 dX8_cuesOfSound_43 ?_
          obtain ⟨i0, h1, h2⟩ := h
          refine r_if_ne (tgt := 51) X i0 dX8_cuesOfSound_44 (by decide) (fun cc => ?_) (fun cc => ?_)
          · have h := h1 cc
            refine r_iconst X dX8_cuesOfSound_51 ?_
            refine r_iadd X dX8_cuesOfSound_52 ?_
            refine lv_istore_n (lv' := [(3, cI (x3 + 0)), (0, .ref (ad o0)), (1, cI x1), (2, cI x2), (4, cI x4)]) X.1 X.2.1 dX8_cuesOfSound_53 rfl hl (by decide) rfl (fun ls hl => ?_)
            refine r_iinc (lv' := [(4, cI (x4 + 1)), (3, cI (x3 + 0)), (0, .ref (ad o0)), (1, cI x1), (2, cI x2)]) X hl (k := 4) rfl (by decide) dX8_cuesOfSound_54 rfl (fun ls hl => ?_)
            refine lv_goto (tgt := 9) X.1 X.2.1 dX8_cuesOfSound_57 (by decide) ?_
            exact ih o0 x1 x2 (x3 + 0) (x4 + 1) M3 _ _ _ k_o0 w (lv_sub hl [2, 3, 4, 1, 0] rfl) h
          · have h := h2 cc
            refine r_iconst X dX8_cuesOfSound_47 ?_
            refine lv_goto (tgt := 52) X.1 X.2.1 dX8_cuesOfSound_48 (by decide) ?_
            refine r_iadd X dX8_cuesOfSound_52 ?_
            refine lv_istore_n (lv' := [(3, cI (x3 + 1)), (0, .ref (ad o0)), (1, cI x1), (2, cI x2), (4, cI x4)]) X.1 X.2.1 dX8_cuesOfSound_53 rfl hl (by decide) rfl (fun ls hl => ?_)
            refine r_iinc (lv' := [(4, cI (x4 + 1)), (3, cI (x3 + 1)), (0, .ref (ad o0)), (1, cI x1), (2, cI x2)]) X hl (k := 4) rfl (by decide) dX8_cuesOfSound_54 rfl (fun ls hl => ?_)
            refine lv_goto (tgt := 9) X.1 X.2.1 dX8_cuesOfSound_57 (by decide) ?_
            exact ih o0 x1 x2 (x3 + 1) (x4 + 1) M3 _ _ _ k_o0 w (lv_sub hl [2, 3, 4, 1, 0] rfl) h
set_option maxHeartbeats 4000000 in
set_option maxRecDepth 100000 in
theorem c_X8_cuesOfSound {E : EE} {l : Launch} {g : GG} {ad : Nat → Nat} (hg : gwf g) {o0 : Nat} {x1 : Int} {x2 : Int} {M : Mm} {Q : Int → Mm → Prop} (k_o0 : gk g o0 = 8) (h : p_X8_cuesOfSound g o0 x1 x2 M Q) : Ct E l yX8_cuesOfSound wsX8_cuesOfSound rmX8_cuesOfSound g ad [.ref (ad o0), cI x1, cI x2] M (QI E g ad Q) := by
  refine ent (cc := cX8_cuesOfSound) (maxL := 5) (ret := (some .int)) (own := RX8) (by decide +kernel) rfl rfl (Nat.le_of_ble_eq_true rfl) ?_
  intro p e s m below meth c ls X hr hlk K w hl
  have hl : lv_has ls 5 [(0, .ref (ad o0)), (1, cI x1), (2, cI x2)] := hl
  unfold p_X8_cuesOfSound at h
  refine lv_aload_n X.1 X.2.1 dX8_cuesOfSound_0 rfl (lv_at hl 0 rfl) ?_
  refine q_v (x_V (As := []) (rest := []) X K w (c_X8_tries hg k_o0 h) (cwV 0 X.2.2.2.2 gX8_cuesOfSound_X8_tries rfl rfl rfl (by decide +kernel) ⟨Nat.le_of_ble_eq_true rfl, Nat.le_of_ble_eq_true rfl⟩) k_o0 (by decide) rfl rfl hl rfl (Nat.le_of_ble_eq_true rfl) dX8_cuesOfSound_1 ⟨Nat.le_of_ble_eq_true rfl, Nat.le_of_ble_eq_true rfl⟩) w (fun M1 H locs h w => ?_)
  refine r_iconst X dX8_cuesOfSound_4 ?_
  refine lv_istore_n (lv' := [(3, cI 0), (0, .ref (ad o0)), (1, cI x1), (2, cI x2)]) X.1 X.2.1 dX8_cuesOfSound_5 rfl hl (by decide) rfl (fun ls hl => ?_)
  refine r_iconst X dX8_cuesOfSound_6 ?_
  refine lv_istore (lv' := [(4, cI 0), (3, cI 0), (0, .ref (ad o0)), (1, cI x1), (2, cI x2)]) X.1 X.2.1 dX8_cuesOfSound_7 hl (by decide) rfl (fun ls hl => ?_)
  obtain ⟨n6, h⟩ := h
  exact w_X8_cuesOfSound_L9 hg X K hr hlk n6 o0 x1 x2 0 0 M1 _ _ _ k_o0 w (lv_sub hl [2, 3, 4, 1, 0] rfl) h
theorem dX8_lacks_0 : decode cX8_lacks 0 = .ok (.aload_n 0, 1) := by decide +kernel
theorem dX8_lacks_1 : decode cX8_lacks 1 = .ok (.iload_n 1, 1) := by decide +kernel
theorem dX8_lacks_2 : decode cX8_lacks 2 = .ok (.iconst 0, 1) := by decide +kernel
theorem dX8_lacks_3 : decode cX8_lacks 3 = .ok (.invokevirtual 209, 3) := by decide +kernel
theorem dX8_lacks_6 : decode cX8_lacks 6 = .ok (.aload_n 0, 1) := by decide +kernel
theorem dX8_lacks_7 : decode cX8_lacks 7 = .ok (.getfield 7, 3) := by decide +kernel
theorem dX8_lacks_10 : decode cX8_lacks 10 = .ok (.bipush 10, 2) := by decide +kernel
theorem dX8_lacks_12 : decode cX8_lacks 12 = .ok (.iload_n 1, 1) := by decide +kernel
theorem dX8_lacks_13 : decode cX8_lacks 13 = .ok (.iadd, 1) := by decide +kernel
theorem dX8_lacks_14 : decode cX8_lacks 14 = .ok (.iaload, 1) := by decide +kernel
theorem dX8_lacks_15 : decode cX8_lacks 15 = .ok (.isub, 1) := by decide +kernel
theorem dX8_lacks_16 : decode cX8_lacks 16 = .ok (.istore_n 2, 1) := by decide +kernel
theorem dX8_lacks_17 : decode cX8_lacks 17 = .ok (.iload_n 2, 1) := by decide +kernel
theorem dX8_lacks_18 : decode cX8_lacks 18 = .ok (.ifCond .ge 7, 3) := by decide +kernel
theorem dX8_lacks_21 : decode cX8_lacks 21 = .ok (.iconst 0, 1) := by decide +kernel
theorem dX8_lacks_22 : decode cX8_lacks 22 = .ok (.goto 4, 3) := by decide +kernel
theorem dX8_lacks_25 : decode cX8_lacks 25 = .ok (.iload_n 2, 1) := by decide +kernel
theorem dX8_lacks_26 : decode cX8_lacks 26 = .ok (.ireturn, 1) := by decide +kernel
set_option maxRecDepth 20000 in
theorem ggX8_lacks_X8_cuesOfSound : GoodIn wsX8_lacks wsX8_cuesOfSound := goodIn_r _ [6, 1, 7, 8, 9, 10, 5, 11, 12, 13, 14, 15, 16, 17, 18, 19, 20, 21, 22, 23, 24, 25, 26, 27, 28, 29, 30, 31, 32, 33, 34, 35, 36, 37, 38, 39, 40, 41, 42, 43, 44, 45, 46, 47, 48, 49, 50, 51, 52, 53, 54, 55, 56, 57, 58, 59, 60, 61, 62, 63, 64, 65, 66, 67, 68, 69, 70, 71, 72, 73, 74] (by decide +kernel) (by decide +kernel)
set_option maxRecDepth 20000 in
theorem gX8_lacks_X8_cuesOfSound : GoodIn wsX8_lacks (wsV RX8 209 RX8 yX8_cuesOfSound wsX8_cuesOfSound) := goodIn_app (goodIn_of _ (by decide +kernel)) ggX8_lacks_X8_cuesOfSound
theorem iX8_lacks_8 : ∀ w ∈ u_ws RX8 TX8 25, w ∈ wsX8_lacks := fun w h => List.mem_cons_of_mem _ (List.mem_append_right _ (h))
set_option maxHeartbeats 4000000 in
set_option maxRecDepth 100000 in
theorem c_X8_lacks {E : EE} {l : Launch} {g : GG} {ad : Nat → Nat} (hg : gwf g) {o0 : Nat} {x1 : Int} {M : Mm} {Q : Int → Mm → Prop} (k_o0 : gk g o0 = 8) (h : p_X8_lacks g o0 x1 M Q) : Ct E l yX8_lacks wsX8_lacks rmX8_lacks g ad [.ref (ad o0), cI x1] M (QI E g ad Q) := by
  refine ent (cc := cX8_lacks) (maxL := 3) (ret := (some .int)) (own := RX8) (by decide +kernel) rfl rfl (Nat.le_of_ble_eq_true rfl) ?_
  intro p e s m below meth c ls X hr hlk K w hl
  have hl : lv_has ls 3 [(0, .ref (ad o0)), (1, cI x1)] := hl
  unfold p_X8_lacks at h
  refine lv_aload_n X.1 X.2.1 dX8_lacks_0 rfl (lv_at hl 0 rfl) ?_
  refine lv_iload_n X.1 X.2.1 dX8_lacks_1 rfl (lv_at hl 1 rfl) ?_
  refine r_iconst X dX8_lacks_2 ?_
  refine q_i (x_V (As := [cI x1, cI 0]) (rest := []) X K w (c_X8_cuesOfSound hg k_o0 h) (cwV 2 X.2.2.2.2 gX8_lacks_X8_cuesOfSound rfl rfl rfl (by decide +kernel) ⟨Nat.le_of_ble_eq_true rfl, Nat.le_of_ble_eq_true rfl⟩) k_o0 (by decide) rfl rfl hl rfl (Nat.le_of_ble_eq_true rfl) dX8_lacks_3 ⟨Nat.le_of_ble_eq_true rfl, Nat.le_of_ble_eq_true rfl⟩) w (fun r2 M1 H locs h w => ?_)
  refine lv_aload_n X.1 X.2.1 dX8_lacks_6 rfl (lv_at hl 0 rfl) ?_
  refine r_getr (N := 25) (T := TX8) X K w iX8_lacks_8 k_o0 rfl (by decide) 0 (by decide) rfl rfl (List.mem_of_getElem? (i := 1) rfl) dX8_lacks_7 ?_
  have k3 : gk g (o0 + 1) = 9 := gch hg k_o0 (by decide) 0 (by decide) rfl rfl
  refine r_bipush X dX8_lacks_10 (by decide +kernel) ?_
  refine lv_iload_n X.1 X.2.1 dX8_lacks_12 rfl (lv_at hl 1 rfl) ?_
  refine r_iadd X dX8_lacks_13 ?_
  obtain ⟨b0, b1, h⟩ := h
  refine r_iald X K w hg k3 b0 b1 dX8_lacks_14 ?_
  refine r_isub X dX8_lacks_15 ?_
  refine lv_istore_n (lv' := [(2, cI (r2 - (M1 (o0 + 1) (10 + x1)))), (0, .ref (ad o0)), (1, cI x1)]) X.1 X.2.1 dX8_lacks_16 rfl hl (by decide) rfl (fun ls hl => ?_)
  refine lv_iload_n X.1 X.2.1 dX8_lacks_17 rfl (lv_at hl 0 rfl) ?_
  obtain ⟨i0, h1, h2⟩ := h
  refine r_if_ge (tgt := 25) X i0 dX8_lacks_18 (by decide) (fun cc => ?_) (fun cc => ?_)
  · have h := h1 cc
    refine lv_iload_n X.1 X.2.1 dX8_lacks_25 rfl (lv_at hl 0 rfl) ?_
    exact r_ireturn X hr hlk K w h dX8_lacks_26
  · have h := h2 cc
    refine r_iconst X dX8_lacks_21 ?_
    refine lv_goto (tgt := 26) X.1 X.2.1 dX8_lacks_22 (by decide) ?_
    exact r_ireturn X hr hlk K w h dX8_lacks_26
theorem dX8_sound_0 : decode cX8_sound 0 = .ok (.iload_n 1, 1) := by decide +kernel
theorem dX8_sound_1 : decode cX8_sound 1 = .ok (.invokestatic 122, 3) := by decide +kernel
theorem dX8_sound_4 : decode cX8_sound 4 = .ok (.ifCond .ne 5, 3) := by decide +kernel
theorem dX8_sound_7 : decode cX8_sound 7 = .ok (.iconst (-1), 1) := by decide +kernel
theorem dX8_sound_8 : decode cX8_sound 8 = .ok (.ireturn, 1) := by decide +kernel
theorem dX8_sound_9 : decode cX8_sound 9 = .ok (.iload_n 2, 1) := by decide +kernel
theorem dX8_sound_10 : decode cX8_sound 10 = .ok (.tableswitch 70 0 5 #[38, 38, 38, 50, 57, 64], 38) := by decide +kernel
theorem dX8_sound_48 : decode cX8_sound 48 = .ok (.aload_n 0, 1) := by decide +kernel
theorem dX8_sound_49 : decode cX8_sound 49 = .ok (.getfield 7, 3) := by decide +kernel
theorem dX8_sound_52 : decode cX8_sound 52 = .ok (.bipush 10, 2) := by decide +kernel
theorem dX8_sound_54 : decode cX8_sound 54 = .ok (.iload_n 2, 1) := by decide +kernel
theorem dX8_sound_55 : decode cX8_sound 55 = .ok (.imul, 1) := by decide +kernel
theorem dX8_sound_56 : decode cX8_sound 56 = .ok (.iload_n 1, 1) := by decide +kernel
theorem dX8_sound_57 : decode cX8_sound 57 = .ok (.iadd, 1) := by decide +kernel
theorem dX8_sound_58 : decode cX8_sound 58 = .ok (.iaload, 1) := by decide +kernel
theorem dX8_sound_59 : decode cX8_sound 59 = .ok (.ireturn, 1) := by decide +kernel
theorem dX8_sound_60 : decode cX8_sound 60 = .ok (.aload_n 0, 1) := by decide +kernel
theorem dX8_sound_61 : decode cX8_sound 61 = .ok (.iload_n 1, 1) := by decide +kernel
theorem dX8_sound_62 : decode cX8_sound 62 = .ok (.iconst 0, 1) := by decide +kernel
theorem dX8_sound_63 : decode cX8_sound 63 = .ok (.invokevirtual 209, 3) := by decide +kernel
theorem dX8_sound_66 : decode cX8_sound 66 = .ok (.ireturn, 1) := by decide +kernel
theorem dX8_sound_67 : decode cX8_sound 67 = .ok (.aload_n 0, 1) := by decide +kernel
theorem dX8_sound_68 : decode cX8_sound 68 = .ok (.iload_n 1, 1) := by decide +kernel
theorem dX8_sound_69 : decode cX8_sound 69 = .ok (.iconst 1, 1) := by decide +kernel
theorem dX8_sound_70 : decode cX8_sound 70 = .ok (.invokevirtual 209, 3) := by decide +kernel
theorem dX8_sound_73 : decode cX8_sound 73 = .ok (.ireturn, 1) := by decide +kernel
theorem dX8_sound_74 : decode cX8_sound 74 = .ok (.aload_n 0, 1) := by decide +kernel
theorem dX8_sound_75 : decode cX8_sound 75 = .ok (.iload_n 1, 1) := by decide +kernel
theorem dX8_sound_76 : decode cX8_sound 76 = .ok (.invokevirtual 213, 3) := by decide +kernel
theorem dX8_sound_79 : decode cX8_sound 79 = .ok (.ireturn, 1) := by decide +kernel
theorem dX8_sound_80 : decode cX8_sound 80 = .ok (.bipush (-2), 2) := by decide +kernel
theorem dX8_sound_82 : decode cX8_sound 82 = .ok (.ireturn, 1) := by decide +kernel
set_option maxRecDepth 20000 in
theorem ggX8_sound_X8_cuesOfSound : GoodIn wsX8_sound wsX8_cuesOfSound := goodIn_r _ [13, 1, 14, 15, 16, 17, 4, 18, 19, 20, 21, 22, 23, 24, 25, 26, 27, 28, 29, 30, 31, 32, 33, 34, 35, 36, 37, 38, 39, 40, 41, 42, 43, 44, 45, 46, 47, 48, 49, 50, 51, 52, 53, 54, 55, 56, 61, 62, 63, 64, 65, 66, 67, 68, 69, 70, 71, 72, 73, 74, 75, 76, 77, 78, 79, 80, 81, 82, 83, 84, 85] (by decide +kernel) (by decide +kernel)
set_option maxRecDepth 20000 in
theorem gX8_sound_X8_cuesOfSound : GoodIn wsX8_sound (wsV RX8 209 RX8 yX8_cuesOfSound wsX8_cuesOfSound) := goodIn_app (goodIn_of _ (by decide +kernel)) ggX8_sound_X8_cuesOfSound
set_option maxRecDepth 20000 in
theorem ggX8_sound_X8_isSound : GoodIn wsX8_sound wsX8_isSound := goodIn_r _ [5, 6, 7, 8, 4, 9] (by decide +kernel) (by decide +kernel)
set_option maxRecDepth 20000 in
theorem gX8_sound_X8_isSound : GoodIn wsX8_sound (va_wsS RX8 122 yX8_isSound wsX8_isSound) := goodIn_app (goodIn_of _ (by decide +kernel)) ggX8_sound_X8_isSound
set_option maxRecDepth 20000 in
theorem ggX8_sound_X8_lacks : GoodIn wsX8_sound wsX8_lacks := goodIn_r _ [60, 1, 10, 11, 12, 4, 13, 14, 15, 16, 17, 18, 19, 20, 21, 22, 23, 24, 25, 26, 27, 28, 29, 30, 31, 32, 33, 34, 35, 36, 37, 38, 39, 40, 41, 42, 43, 44, 45, 46, 47, 48, 49, 50, 51, 52, 53, 54, 55, 56, 61, 62, 63, 64, 65, 66, 67, 68, 69, 70, 71, 72, 73, 74, 75, 76, 77, 78, 79, 80, 81, 82, 83, 84, 85] (by decide +kernel) (by decide +kernel)
set_option maxRecDepth 20000 in
theorem gX8_sound_X8_lacks : GoodIn wsX8_sound (wsV RX8 213 RX8 yX8_lacks wsX8_lacks) := goodIn_app (goodIn_of _ (by decide +kernel)) ggX8_sound_X8_lacks
theorem iX8_sound_8 : ∀ w ∈ u_ws RX8 TX8 25, w ∈ wsX8_sound := fun w h => List.mem_cons_of_mem _ (List.mem_append_right _ (h))
set_option maxHeartbeats 4000000 in
set_option maxRecDepth 100000 in
theorem c_X8_sound {E : EE} {l : Launch} {g : GG} {ad : Nat → Nat} (hg : gwf g) {o0 : Nat} {x1 : Int} {x2 : Int} {M : Mm} {Q : Int → Mm → Prop} (k_o0 : gk g o0 = 8) (h : p_X8_sound g o0 x1 x2 M Q) : Ct E l yX8_sound wsX8_sound rmX8_sound g ad [.ref (ad o0), cI x1, cI x2] M (QI E g ad Q) := by
  refine ent (cc := cX8_sound) (maxL := 3) (ret := (some .int)) (own := RX8) (by decide +kernel) rfl rfl (Nat.le_of_ble_eq_true rfl) ?_
  intro p e s m below meth c ls X hr hlk K w hl
  have hl : lv_has ls 3 [(0, .ref (ad o0)), (1, cI x1), (2, cI x2)] := hl
  unfold p_X8_sound at h
  refine lv_iload_n X.1 X.2.1 dX8_sound_0 rfl (lv_at hl 1 rfl) ?_
  refine q_i (x_S (As := [cI x1]) (rest := []) X K w (c_X8_isSound hg h) (va_cwS 1 X.2.2.2.2 gX8_sound_X8_isSound rfl rfl rfl (by decide +kernel) ⟨Nat.le_of_ble_eq_true rfl, Nat.le_of_ble_eq_true rfl⟩) rfl hl rfl (Nat.le_of_ble_eq_true rfl) dX8_sound_1 ⟨Nat.le_of_ble_eq_true rfl, Nat.le_of_ble_eq_true rfl⟩) w (fun r2 M1 H locs h w => ?_)
  obtain ⟨i0, h1, h2⟩ := h
  refine r_if_ne (tgt := 9) X i0 dX8_sound_4 (by decide) (fun cc => ?_) (fun cc => ?_)
  · have h := h1 cc
    refine lv_iload_n X.1 X.2.1 dX8_sound_9 rfl (lv_at hl 2 rfl) ?_
    obtain ⟨i0, h⟩ := h
    obtain ⟨h1, h⟩ := h
    by_cases cs0 : x2 = 0
    · have h := h1 cs0
      refine r_tabIn (tgt := 48) X i0 dX8_sound_10 0 cs0 (by decide) (by decide) rfl (by decide) ?_
      refine lv_aload_n X.1 X.2.1 dX8_sound_48 rfl (lv_at hl 0 rfl) ?_
      refine r_getr (N := 25) (T := TX8) X K w iX8_sound_8 k_o0 rfl (by decide) 0 (by decide) rfl rfl (List.mem_of_getElem? (i := 1) rfl) dX8_sound_49 ?_
      have k3 : gk g (o0 + 1) = 9 := gch hg k_o0 (by decide) 0 (by decide) rfl rfl
      refine r_bipush X dX8_sound_52 (by decide +kernel) ?_
      refine lv_iload_n X.1 X.2.1 dX8_sound_54 rfl (lv_at hl 2 rfl) ?_
      refine r_imul X dX8_sound_55 ?_
      refine lv_iload_n X.1 X.2.1 dX8_sound_56 rfl (lv_at hl 1 rfl) ?_
      refine r_iadd X dX8_sound_57 ?_
      obtain ⟨b0, b1, h⟩ := h
      refine r_iald X K w hg k3 b0 b1 dX8_sound_58 ?_
      exact r_ireturn X hr hlk K w h dX8_sound_59
    obtain ⟨h1, h⟩ := h
    by_cases cs1 : x2 = 1
    · have h := h1 cs1
      refine r_tabIn (tgt := 48) X i0 dX8_sound_10 1 cs1 (by decide) (by decide) rfl (by decide) ?_
      refine lv_aload_n X.1 X.2.1 dX8_sound_48 rfl (lv_at hl 0 rfl) ?_
      refine r_getr (N := 25) (T := TX8) X K w iX8_sound_8 k_o0 rfl (by decide) 0 (by decide) rfl rfl (List.mem_of_getElem? (i := 1) rfl) dX8_sound_49 ?_
      have k4 : gk g (o0 + 1) = 9 := gch hg k_o0 (by decide) 0 (by decide) rfl rfl
      refine r_bipush X dX8_sound_52 (by decide +kernel) ?_
      refine lv_iload_n X.1 X.2.1 dX8_sound_54 rfl (lv_at hl 2 rfl) ?_
      refine r_imul X dX8_sound_55 ?_
      refine lv_iload_n X.1 X.2.1 dX8_sound_56 rfl (lv_at hl 1 rfl) ?_
      refine r_iadd X dX8_sound_57 ?_
      obtain ⟨b0, b1, h⟩ := h
      refine r_iald X K w hg k4 b0 b1 dX8_sound_58 ?_
      exact r_ireturn X hr hlk K w h dX8_sound_59
    obtain ⟨h1, h⟩ := h
    by_cases cs2 : x2 = 2
    · have h := h1 cs2
      refine r_tabIn (tgt := 48) X i0 dX8_sound_10 2 cs2 (by decide) (by decide) rfl (by decide) ?_
      refine lv_aload_n X.1 X.2.1 dX8_sound_48 rfl (lv_at hl 0 rfl) ?_
      refine r_getr (N := 25) (T := TX8) X K w iX8_sound_8 k_o0 rfl (by decide) 0 (by decide) rfl rfl (List.mem_of_getElem? (i := 1) rfl) dX8_sound_49 ?_
      have k5 : gk g (o0 + 1) = 9 := gch hg k_o0 (by decide) 0 (by decide) rfl rfl
      refine r_bipush X dX8_sound_52 (by decide +kernel) ?_
      refine lv_iload_n X.1 X.2.1 dX8_sound_54 rfl (lv_at hl 2 rfl) ?_
      refine r_imul X dX8_sound_55 ?_
      refine lv_iload_n X.1 X.2.1 dX8_sound_56 rfl (lv_at hl 1 rfl) ?_
      refine r_iadd X dX8_sound_57 ?_
      obtain ⟨b0, b1, h⟩ := h
      refine r_iald X K w hg k5 b0 b1 dX8_sound_58 ?_
      exact r_ireturn X hr hlk K w h dX8_sound_59
    obtain ⟨h1, h⟩ := h
    by_cases cs3 : x2 = 3
    · have h := h1 cs3
      refine r_tabIn (tgt := 60) X i0 dX8_sound_10 3 cs3 (by decide) (by decide) rfl (by decide) ?_
      refine lv_aload_n X.1 X.2.1 dX8_sound_60 rfl (lv_at hl 0 rfl) ?_
      refine lv_iload_n X.1 X.2.1 dX8_sound_61 rfl (lv_at hl 1 rfl) ?_
      refine r_iconst X dX8_sound_62 ?_
      refine q_i (x_V (As := [cI x1, cI 0]) (rest := []) X K w (c_X8_cuesOfSound hg k_o0 h) (cwV 2 X.2.2.2.2 gX8_sound_X8_cuesOfSound rfl rfl rfl (by decide +kernel) ⟨Nat.le_of_ble_eq_true rfl, Nat.le_of_ble_eq_true rfl⟩) k_o0 (by decide) rfl rfl hl rfl (Nat.le_of_ble_eq_true rfl) dX8_sound_63 ⟨Nat.le_of_ble_eq_true rfl, Nat.le_of_ble_eq_true rfl⟩) w (fun r7 M6 H locs h w => ?_)
      exact r_ireturn X hr hlk K w h dX8_sound_66
    obtain ⟨h1, h⟩ := h
    by_cases cs4 : x2 = 4
    · have h := h1 cs4
      refine r_tabIn (tgt := 67) X i0 dX8_sound_10 4 cs4 (by decide) (by decide) rfl (by decide) ?_
      refine lv_aload_n X.1 X.2.1 dX8_sound_67 rfl (lv_at hl 0 rfl) ?_
      refine lv_iload_n X.1 X.2.1 dX8_sound_68 rfl (lv_at hl 1 rfl) ?_
      refine r_iconst X dX8_sound_69 ?_
      refine q_i (x_V (As := [cI x1, cI 1]) (rest := []) X K w (c_X8_cuesOfSound hg k_o0 h) (cwV 2 X.2.2.2.2 gX8_sound_X8_cuesOfSound rfl rfl rfl (by decide +kernel) ⟨Nat.le_of_ble_eq_true rfl, Nat.le_of_ble_eq_true rfl⟩) k_o0 (by decide) rfl rfl hl rfl (Nat.le_of_ble_eq_true rfl) dX8_sound_70 ⟨Nat.le_of_ble_eq_true rfl, Nat.le_of_ble_eq_true rfl⟩) w (fun r9 M8 H locs h w => ?_)
      exact r_ireturn X hr hlk K w h dX8_sound_73
    obtain ⟨h1, h⟩ := h
    by_cases cs5 : x2 = 5
    · have h := h1 cs5
      refine r_tabIn (tgt := 74) X i0 dX8_sound_10 5 cs5 (by decide) (by decide) rfl (by decide) ?_
      refine lv_aload_n X.1 X.2.1 dX8_sound_74 rfl (lv_at hl 0 rfl) ?_
      refine lv_iload_n X.1 X.2.1 dX8_sound_75 rfl (lv_at hl 1 rfl) ?_
      refine q_i (x_V (As := [cI x1]) (rest := []) X K w (c_X8_lacks hg k_o0 h) (cwV 1 X.2.2.2.2 gX8_sound_X8_lacks rfl rfl rfl (by decide +kernel) ⟨Nat.le_of_ble_eq_true rfl, Nat.le_of_ble_eq_true rfl⟩) k_o0 (by decide) rfl rfl hl rfl (Nat.le_of_ble_eq_true rfl) dX8_sound_76 ⟨Nat.le_of_ble_eq_true rfl, Nat.le_of_ble_eq_true rfl⟩) w (fun r11 M10 H locs h w => ?_)
      exact r_ireturn X hr hlk K w h dX8_sound_79
    have co : x2 < 0 ∨ 5 < x2 := by omega
    replace h := h co
    refine r_tabOut (tgt := 80) X i0 dX8_sound_10 co (by decide) ?_
    refine r_bipush X dX8_sound_80 (by decide +kernel) ?_
    exact r_ireturn X hr hlk K w h dX8_sound_82
  · have h := h2 cc
    refine r_iconst X dX8_sound_7 ?_
    exact r_ireturn X hr hlk K w h dX8_sound_8
theorem dX8_cue_0 : decode cX8_cue 0 = .ok (.aload_n 0, 1) := by decide +kernel
theorem dX8_cue_1 : decode cX8_cue 1 = .ok (.iload_n 1, 1) := by decide +kernel
theorem dX8_cue_2 : decode cX8_cue 2 = .ok (.invokevirtual 179, 3) := by decide +kernel
theorem dX8_cue_5 : decode cX8_cue 5 = .ok (.ifCond .ne 5, 3) := by decide +kernel
theorem dX8_cue_8 : decode cX8_cue 8 = .ok (.iconst (-1), 1) := by decide +kernel
theorem dX8_cue_9 : decode cX8_cue 9 = .ok (.ireturn, 1) := by decide +kernel
theorem dX8_cue_10 : decode cX8_cue 10 = .ok (.aload_n 0, 1) := by decide +kernel
theorem dX8_cue_11 : decode cX8_cue 11 = .ok (.invokevirtual 206, 3) := by decide +kernel
theorem dX8_cue_14 : decode cX8_cue 14 = .ok (.iload_n 2, 1) := by decide +kernel
theorem dX8_cue_15 : decode cX8_cue 15 = .ok (.tableswitch 69 0 6 #[41, 41, 41, 41, 48, 55, 62], 41) := by decide +kernel
theorem dX8_cue_56 : decode cX8_cue 56 = .ok (.aload_n 0, 1) := by decide +kernel
theorem dX8_cue_57 : decode cX8_cue 57 = .ok (.iload_n 1, 1) := by decide +kernel
theorem dX8_cue_58 : decode cX8_cue 58 = .ok (.iload_n 2, 1) := by decide +kernel
theorem dX8_cue_59 : decode cX8_cue 59 = .ok (.invokevirtual 77, 3) := by decide +kernel
theorem dX8_cue_62 : decode cX8_cue 62 = .ok (.ireturn, 1) := by decide +kernel
theorem dX8_cue_63 : decode cX8_cue 63 = .ok (.aload_n 0, 1) := by decide +kernel
theorem dX8_cue_64 : decode cX8_cue 64 = .ok (.getfield 25, 3) := by decide +kernel
theorem dX8_cue_67 : decode cX8_cue 67 = .ok (.iload_n 1, 1) := by decide +kernel
theorem dX8_cue_68 : decode cX8_cue 68 = .ok (.iaload, 1) := by decide +kernel
theorem dX8_cue_69 : decode cX8_cue 69 = .ok (.ireturn, 1) := by decide +kernel
theorem dX8_cue_70 : decode cX8_cue 70 = .ok (.aload_n 0, 1) := by decide +kernel
theorem dX8_cue_71 : decode cX8_cue 71 = .ok (.getfield 28, 3) := by decide +kernel
theorem dX8_cue_74 : decode cX8_cue 74 = .ok (.iload_n 1, 1) := by decide +kernel
theorem dX8_cue_75 : decode cX8_cue 75 = .ok (.iaload, 1) := by decide +kernel
theorem dX8_cue_76 : decode cX8_cue 76 = .ok (.ireturn, 1) := by decide +kernel
theorem dX8_cue_77 : decode cX8_cue 77 = .ok (.aload_n 0, 1) := by decide +kernel
theorem dX8_cue_78 : decode cX8_cue 78 = .ok (.getfield 31, 3) := by decide +kernel
theorem dX8_cue_81 : decode cX8_cue 81 = .ok (.iload_n 1, 1) := by decide +kernel
theorem dX8_cue_82 : decode cX8_cue 82 = .ok (.iaload, 1) := by decide +kernel
theorem dX8_cue_83 : decode cX8_cue 83 = .ok (.ireturn, 1) := by decide +kernel
theorem dX8_cue_84 : decode cX8_cue 84 = .ok (.bipush (-2), 2) := by decide +kernel
theorem dX8_cue_86 : decode cX8_cue 86 = .ok (.ireturn, 1) := by decide +kernel
set_option maxRecDepth 20000 in
theorem ggX8_cue_X8_isCue : GoodIn wsX8_cue wsX8_isCue := goodIn_r _ [8, 9, 10, 11, 7, 12, 53, 54, 55, 56, 57, 58, 59, 60, 61, 62, 63, 64, 65, 66, 67, 68, 69, 70, 71, 72, 73, 74, 75, 76, 77] (by decide +kernel) (by decide +kernel)
set_option maxRecDepth 20000 in
theorem gX8_cue_X8_isCue : GoodIn wsX8_cue (wsV RX8 179 RX8 yX8_isCue wsX8_isCue) := goodIn_app (goodIn_of _ (by decide +kernel)) ggX8_cue_X8_isCue
set_option maxRecDepth 20000 in
theorem ggX8_cue_X8_of : GoodIn wsX8_cue wsX8_of := goodIn_r _ [41, 9, 53, 54, 55, 56, 57, 58, 59, 60, 61, 62, 63, 64, 65, 66, 67, 68, 69, 70, 71, 72, 73, 74, 75, 76, 77] (by decide +kernel) (by decide +kernel)
set_option maxRecDepth 20000 in
theorem gX8_cue_X8_of : GoodIn wsX8_cue (wsV RX8 77 RX8 yX8_of wsX8_of) := goodIn_app (goodIn_of _ (by decide +kernel)) ggX8_cue_X8_of
set_option maxRecDepth 20000 in
theorem ggX8_cue_X8_tries : GoodIn wsX8_cue wsX8_tries := goodIn_r _ [16, 9, 17, 18, 19, 20, 7, 21, 22, 23, 24, 25, 26, 27, 28, 29, 30, 31, 32, 33, 34, 35, 36, 1, 3, 37, 2, 38, 39, 40, 41, 42, 43, 44, 45, 46, 47, 48, 49, 50, 51, 52, 53, 54, 55, 56, 57, 58, 59, 60, 61, 62, 63, 64, 65, 66, 67, 68, 69, 70, 71, 72, 73, 74, 75, 76, 77] (by decide +kernel) (by decide +kernel)
set_option maxRecDepth 20000 in
theorem gX8_cue_X8_tries : GoodIn wsX8_cue (wsV RX8 206 RX8 yX8_tries wsX8_tries) := goodIn_app (goodIn_of _ (by decide +kernel)) ggX8_cue_X8_tries
theorem iX8_cue_8 : ∀ w ∈ u_ws RX8 TX8 25, w ∈ wsX8_cue := fun w h => List.mem_cons_of_mem _ (List.mem_append_right _ (h))
theorem tstep_X8_cue {x k k2 : Int} (h : k ≤ x) (hn : ¬ x = k) (e : k + 1 = k2) : k2 ≤ x := by omega
theorem tlow_X8_cue (x k : Int) : x < k ∨ k ≤ x := by omega
set_option maxHeartbeats 4000000 in
set_option maxRecDepth 100000 in
theorem c_X8_cue {E : EE} {l : Launch} {g : GG} {ad : Nat → Nat} (hg : gwf g) {o0 : Nat} {x1 : Int} {x2 : Int} {M : Mm} {Q : Int → Mm → Prop} (k_o0 : gk g o0 = 8) (h : p_X8_cue g o0 x1 x2 M Q) : Ct E l yX8_cue wsX8_cue rmX8_cue g ad [.ref (ad o0), cI x1, cI x2] M (QI E g ad Q) := by
  refine ent (cc := cX8_cue) (maxL := 3) (ret := (some .int)) (own := RX8) (by decide +kernel) rfl rfl (Nat.le_of_ble_eq_true rfl) ?_
  intro p e s m below meth c ls X hr hlk K w hl
  have hl : lv_has ls 3 [(0, .ref (ad o0)), (1, cI x1), (2, cI x2)] := hl
  unfold p_X8_cue at h
  refine lv_aload_n X.1 X.2.1 dX8_cue_0 rfl (lv_at hl 0 rfl) ?_
  refine lv_iload_n X.1 X.2.1 dX8_cue_1 rfl (lv_at hl 1 rfl) ?_
  refine q_i (x_V (As := [cI x1]) (rest := []) X K w (c_X8_isCue hg k_o0 h) (cwV 1 X.2.2.2.2 gX8_cue_X8_isCue rfl rfl rfl (by decide +kernel) ⟨Nat.le_of_ble_eq_true rfl, Nat.le_of_ble_eq_true rfl⟩) k_o0 (by decide) rfl rfl hl rfl (Nat.le_of_ble_eq_true rfl) dX8_cue_2 ⟨Nat.le_of_ble_eq_true rfl, Nat.le_of_ble_eq_true rfl⟩) w (fun r2 M1 H locs h w => ?_)
  obtain ⟨i0, h1, h2⟩ := h
  refine r_if_ne (tgt := 10) X i0 dX8_cue_5 (by decide) (fun cc => ?_) (fun cc => ?_)
  · have h := h1 cc
    refine lv_aload_n X.1 X.2.1 dX8_cue_10 rfl (lv_at hl 0 rfl) ?_
    refine q_v (x_V (As := []) (rest := []) X K w (c_X8_tries hg k_o0 h) (cwV 0 X.2.2.2.2 gX8_cue_X8_tries rfl rfl rfl (by decide +kernel) ⟨Nat.le_of_ble_eq_true rfl, Nat.le_of_ble_eq_true rfl⟩) k_o0 (by decide) rfl rfl hl rfl (Nat.le_of_ble_eq_true rfl) dX8_cue_11 ⟨Nat.le_of_ble_eq_true rfl, Nat.le_of_ble_eq_true rfl⟩) w (fun M3 H locs h w => ?_)
    refine lv_iload_n X.1 X.2.1 dX8_cue_14 rfl (lv_at hl 2 rfl) ?_
    obtain ⟨i0, h⟩ := h
    obtain ⟨h1, h⟩ := h
    by_cases cs0 : x2 = 0
    · have h := h1 cs0
      refine r_tabIn (tgt := 56) X i0 dX8_cue_15 0 cs0 (by decide) (by decide) rfl (by decide) ?_
      refine lv_aload_n X.1 X.2.1 dX8_cue_56 rfl (lv_at hl 0 rfl) ?_
      refine lv_iload_n X.1 X.2.1 dX8_cue_57 rfl (lv_at hl 1 rfl) ?_
      refine lv_iload_n X.1 X.2.1 dX8_cue_58 rfl (lv_at hl 2 rfl) ?_
      refine q_i (x_V (As := [cI x1, cI x2]) (rest := []) X K w (c_X8_of hg k_o0 h) (cwV 2 X.2.2.2.2 gX8_cue_X8_of rfl rfl rfl (by decide +kernel) ⟨Nat.le_of_ble_eq_true rfl, Nat.le_of_ble_eq_true rfl⟩) k_o0 (by decide) rfl rfl hl rfl (Nat.le_of_ble_eq_true rfl) dX8_cue_59 ⟨Nat.le_of_ble_eq_true rfl, Nat.le_of_ble_eq_true rfl⟩) w (fun r5 M4 H locs h w => ?_)
      exact r_ireturn X hr hlk K w h dX8_cue_62
    obtain ⟨h1, h⟩ := h
    by_cases cs1 : x2 = 1
    · have h := h1 cs1
      refine r_tabIn (tgt := 56) X i0 dX8_cue_15 1 cs1 (by decide) (by decide) rfl (by decide) ?_
      refine lv_aload_n X.1 X.2.1 dX8_cue_56 rfl (lv_at hl 0 rfl) ?_
      refine lv_iload_n X.1 X.2.1 dX8_cue_57 rfl (lv_at hl 1 rfl) ?_
      refine lv_iload_n X.1 X.2.1 dX8_cue_58 rfl (lv_at hl 2 rfl) ?_
      refine q_i (x_V (As := [cI x1, cI x2]) (rest := []) X K w (c_X8_of hg k_o0 h) (cwV 2 X.2.2.2.2 gX8_cue_X8_of rfl rfl rfl (by decide +kernel) ⟨Nat.le_of_ble_eq_true rfl, Nat.le_of_ble_eq_true rfl⟩) k_o0 (by decide) rfl rfl hl rfl (Nat.le_of_ble_eq_true rfl) dX8_cue_59 ⟨Nat.le_of_ble_eq_true rfl, Nat.le_of_ble_eq_true rfl⟩) w (fun r7 M6 H locs h w => ?_)
      exact r_ireturn X hr hlk K w h dX8_cue_62
    obtain ⟨h1, h⟩ := h
    by_cases cs2 : x2 = 2
    · have h := h1 cs2
      refine r_tabIn (tgt := 56) X i0 dX8_cue_15 2 cs2 (by decide) (by decide) rfl (by decide) ?_
      refine lv_aload_n X.1 X.2.1 dX8_cue_56 rfl (lv_at hl 0 rfl) ?_
      refine lv_iload_n X.1 X.2.1 dX8_cue_57 rfl (lv_at hl 1 rfl) ?_
      refine lv_iload_n X.1 X.2.1 dX8_cue_58 rfl (lv_at hl 2 rfl) ?_
      refine q_i (x_V (As := [cI x1, cI x2]) (rest := []) X K w (c_X8_of hg k_o0 h) (cwV 2 X.2.2.2.2 gX8_cue_X8_of rfl rfl rfl (by decide +kernel) ⟨Nat.le_of_ble_eq_true rfl, Nat.le_of_ble_eq_true rfl⟩) k_o0 (by decide) rfl rfl hl rfl (Nat.le_of_ble_eq_true rfl) dX8_cue_59 ⟨Nat.le_of_ble_eq_true rfl, Nat.le_of_ble_eq_true rfl⟩) w (fun r9 M8 H locs h w => ?_)
      exact r_ireturn X hr hlk K w h dX8_cue_62
    obtain ⟨h1, h⟩ := h
    by_cases cs3 : x2 = 3
    · have h := h1 cs3
      refine r_tabIn (tgt := 56) X i0 dX8_cue_15 3 cs3 (by decide) (by decide) rfl (by decide) ?_
      refine lv_aload_n X.1 X.2.1 dX8_cue_56 rfl (lv_at hl 0 rfl) ?_
      refine lv_iload_n X.1 X.2.1 dX8_cue_57 rfl (lv_at hl 1 rfl) ?_
      refine lv_iload_n X.1 X.2.1 dX8_cue_58 rfl (lv_at hl 2 rfl) ?_
      refine q_i (x_V (As := [cI x1, cI x2]) (rest := []) X K w (c_X8_of hg k_o0 h) (cwV 2 X.2.2.2.2 gX8_cue_X8_of rfl rfl rfl (by decide +kernel) ⟨Nat.le_of_ble_eq_true rfl, Nat.le_of_ble_eq_true rfl⟩) k_o0 (by decide) rfl rfl hl rfl (Nat.le_of_ble_eq_true rfl) dX8_cue_59 ⟨Nat.le_of_ble_eq_true rfl, Nat.le_of_ble_eq_true rfl⟩) w (fun r11 M10 H locs h w => ?_)
      exact r_ireturn X hr hlk K w h dX8_cue_62
    obtain ⟨h1, h⟩ := h
    by_cases cs4 : x2 = 4
    · have h := h1 cs4
      refine r_tabIn (tgt := 63) X i0 dX8_cue_15 4 cs4 (by decide) (by decide) rfl (by decide) ?_
      refine lv_aload_n X.1 X.2.1 dX8_cue_63 rfl (lv_at hl 0 rfl) ?_
      refine r_getr (N := 25) (T := TX8) X K w iX8_cue_8 k_o0 rfl (by decide) 7 (by decide) rfl rfl (List.mem_of_getElem? (i := 1) rfl) dX8_cue_64 ?_
      have k12 : gk g (o0 + 6) = 9 := gch hg k_o0 (by decide) 7 (by decide) rfl rfl
      refine lv_iload_n X.1 X.2.1 dX8_cue_67 rfl (lv_at hl 1 rfl) ?_
      obtain ⟨b0, b1, h⟩ := h
      refine r_iald X K w hg k12 b0 b1 dX8_cue_68 ?_
      exact r_ireturn X hr hlk K w h dX8_cue_69
    obtain ⟨h1, h⟩ := h
    by_cases cs5 : x2 = 5
    · have h := h1 cs5
      refine r_tabIn (tgt := 70) X i0 dX8_cue_15 5 cs5 (by decide) (by decide) rfl (by decide) ?_
      refine lv_aload_n X.1 X.2.1 dX8_cue_70 rfl (lv_at hl 0 rfl) ?_
      refine r_getr (N := 25) (T := TX8) X K w iX8_cue_8 k_o0 rfl (by decide) 8 (by decide) rfl rfl (List.mem_of_getElem? (i := 2) rfl) dX8_cue_71 ?_
      have k13 : gk g (o0 + 7) = 9 := gch hg k_o0 (by decide) 8 (by decide) rfl rfl
      refine lv_iload_n X.1 X.2.1 dX8_cue_74 rfl (lv_at hl 1 rfl) ?_
      obtain ⟨b0, b1, h⟩ := h
      refine r_iald X K w hg k13 b0 b1 dX8_cue_75 ?_
      exact r_ireturn X hr hlk K w h dX8_cue_76
    obtain ⟨h1, h⟩ := h
    by_cases cs6 : x2 = 6
    · have h := h1 cs6
      refine r_tabIn (tgt := 77) X i0 dX8_cue_15 6 cs6 (by decide) (by decide) rfl (by decide) ?_
      refine lv_aload_n X.1 X.2.1 dX8_cue_77 rfl (lv_at hl 0 rfl) ?_
      refine r_getr (N := 25) (T := TX8) X K w iX8_cue_8 k_o0 rfl (by decide) 9 (by decide) rfl rfl (List.mem_of_getElem? (i := 3) rfl) dX8_cue_78 ?_
      have k14 : gk g (o0 + 8) = 9 := gch hg k_o0 (by decide) 9 (by decide) rfl rfl
      refine lv_iload_n X.1 X.2.1 dX8_cue_81 rfl (lv_at hl 1 rfl) ?_
      obtain ⟨b0, b1, h⟩ := h
      refine r_iald X K w hg k14 b0 b1 dX8_cue_82 ?_
      exact r_ireturn X hr hlk K w h dX8_cue_83
    have co : x2 < 0 ∨ 6 < x2 := by
      rcases tlow_X8_cue x2 0 with q | q
      · exact Or.inl q
      have q : (1 : Int) ≤ x2 := tstep_X8_cue q cs0 rfl
      have q : (2 : Int) ≤ x2 := tstep_X8_cue q cs1 rfl
      have q : (3 : Int) ≤ x2 := tstep_X8_cue q cs2 rfl
      have q : (4 : Int) ≤ x2 := tstep_X8_cue q cs3 rfl
      have q : (5 : Int) ≤ x2 := tstep_X8_cue q cs4 rfl
      have q : (6 : Int) ≤ x2 := tstep_X8_cue q cs5 rfl
      have q : (7 : Int) ≤ x2 := tstep_X8_cue q cs6 rfl
      exact Or.inr q
    replace h := h co
    refine r_tabOut (tgt := 84) X i0 dX8_cue_15 co (by decide) ?_
    refine r_bipush X dX8_cue_84 (by decide +kernel) ?_
    exact r_ireturn X hr hlk K w h dX8_cue_86
  · have h := h2 cc
    refine r_iconst X dX8_cue_8 ?_
    exact r_ireturn X hr hlk K w h dX8_cue_9
theorem dX8_hand_0 : decode cX8_hand 0 = .ok (.aload_n 0, 1) := by decide +kernel
theorem dX8_hand_1 : decode cX8_hand 1 = .ok (.iload_n 1, 1) := by decide +kernel
theorem dX8_hand_2 : decode cX8_hand 2 = .ok (.invokevirtual 135, 3) := by decide +kernel
theorem dX8_hand_5 : decode cX8_hand 5 = .ok (.ifCond .ne 5, 3) := by decide +kernel
theorem dX8_hand_8 : decode cX8_hand 8 = .ok (.iconst (-1), 1) := by decide +kernel
theorem dX8_hand_9 : decode cX8_hand 9 = .ok (.ireturn, 1) := by decide +kernel
theorem dX8_hand_10 : decode cX8_hand 10 = .ok (.aload_n 0, 1) := by decide +kernel
theorem dX8_hand_11 : decode cX8_hand 11 = .ok (.invokevirtual 206, 3) := by decide +kernel
theorem dX8_hand_14 : decode cX8_hand 14 = .ok (.iload_n 2, 1) := by decide +kernel
theorem dX8_hand_15 : decode cX8_hand 15 = .ok (.tableswitch 71 0 4 #[33, 43, 50, 57, 64], 33) := by decide +kernel
theorem dX8_hand_48 : decode cX8_hand 48 = .ok (.aload_n 0, 1) := by decide +kernel
theorem dX8_hand_49 : decode cX8_hand 49 = .ok (.getfield 7, 3) := by decide +kernel
theorem dX8_hand_52 : decode cX8_hand 52 = .ok (.bipush 31, 2) := by decide +kernel
theorem dX8_hand_54 : decode cX8_hand 54 = .ok (.iload_n 1, 1) := by decide +kernel
theorem dX8_hand_55 : decode cX8_hand 55 = .ok (.iadd, 1) := by decide +kernel
theorem dX8_hand_56 : decode cX8_hand 56 = .ok (.iaload, 1) := by decide +kernel
theorem dX8_hand_57 : decode cX8_hand 57 = .ok (.ireturn, 1) := by decide +kernel
theorem dX8_hand_58 : decode cX8_hand 58 = .ok (.aload_n 0, 1) := by decide +kernel
theorem dX8_hand_59 : decode cX8_hand 59 = .ok (.getfield 40, 3) := by decide +kernel
theorem dX8_hand_62 : decode cX8_hand 62 = .ok (.iload_n 1, 1) := by decide +kernel
theorem dX8_hand_63 : decode cX8_hand 63 = .ok (.iaload, 1) := by decide +kernel
theorem dX8_hand_64 : decode cX8_hand 64 = .ok (.ireturn, 1) := by decide +kernel
theorem dX8_hand_65 : decode cX8_hand 65 = .ok (.aload_n 0, 1) := by decide +kernel
theorem dX8_hand_66 : decode cX8_hand 66 = .ok (.getfield 43, 3) := by decide +kernel
theorem dX8_hand_69 : decode cX8_hand 69 = .ok (.iload_n 1, 1) := by decide +kernel
theorem dX8_hand_70 : decode cX8_hand 70 = .ok (.iaload, 1) := by decide +kernel
theorem dX8_hand_71 : decode cX8_hand 71 = .ok (.ireturn, 1) := by decide +kernel
theorem dX8_hand_72 : decode cX8_hand 72 = .ok (.aload_n 0, 1) := by decide +kernel
theorem dX8_hand_73 : decode cX8_hand 73 = .ok (.getfield 37, 3) := by decide +kernel
theorem dX8_hand_76 : decode cX8_hand 76 = .ok (.iload_n 1, 1) := by decide +kernel
theorem dX8_hand_77 : decode cX8_hand 77 = .ok (.iaload, 1) := by decide +kernel
theorem dX8_hand_78 : decode cX8_hand 78 = .ok (.ireturn, 1) := by decide +kernel
theorem dX8_hand_79 : decode cX8_hand 79 = .ok (.aload_n 0, 1) := by decide +kernel
theorem dX8_hand_80 : decode cX8_hand 80 = .ok (.getfield 52, 3) := by decide +kernel
theorem dX8_hand_83 : decode cX8_hand 83 = .ok (.iload_n 1, 1) := by decide +kernel
theorem dX8_hand_84 : decode cX8_hand 84 = .ok (.iaload, 1) := by decide +kernel
theorem dX8_hand_85 : decode cX8_hand 85 = .ok (.ireturn, 1) := by decide +kernel
theorem dX8_hand_86 : decode cX8_hand 86 = .ok (.bipush (-2), 2) := by decide +kernel
theorem dX8_hand_88 : decode cX8_hand 88 = .ok (.ireturn, 1) := by decide +kernel
set_option maxRecDepth 20000 in
theorem ggX8_hand_X8_isHand : GoodIn wsX8_hand wsX8_isHand := goodIn_r _ [10, 1, 11, 12, 9, 13, 53, 54, 55, 56, 57, 58, 59, 60, 61, 62, 63, 64, 65, 66, 67, 68, 69, 70, 71, 72, 73, 74, 75, 76, 77] (by decide +kernel) (by decide +kernel)
set_option maxRecDepth 20000 in
theorem gX8_hand_X8_isHand : GoodIn wsX8_hand (wsV RX8 135 RX8 yX8_isHand wsX8_isHand) := goodIn_app (goodIn_of _ (by decide +kernel)) ggX8_hand_X8_isHand
set_option maxRecDepth 20000 in
theorem ggX8_hand_X8_tries : GoodIn wsX8_hand wsX8_tries := goodIn_r _ [17, 1, 18, 5, 19, 20, 9, 21, 22, 23, 24, 25, 26, 27, 4, 2, 3, 28, 29, 30, 31, 32, 33, 34, 35, 36, 37, 38, 39, 40, 41, 42, 43, 44, 45, 46, 47, 48, 49, 50, 51, 52, 53, 54, 55, 56, 57, 58, 59, 60, 61, 62, 63, 64, 65, 66, 67, 68, 69, 70, 71, 72, 73, 74, 75, 76, 77] (by decide +kernel) (by decide +kernel)
set_option maxRecDepth 20000 in
theorem gX8_hand_X8_tries : GoodIn wsX8_hand (wsV RX8 206 RX8 yX8_tries wsX8_tries) := goodIn_app (goodIn_of _ (by decide +kernel)) ggX8_hand_X8_tries
theorem iX8_hand_8 : ∀ w ∈ u_ws RX8 TX8 25, w ∈ wsX8_hand := fun w h => List.mem_cons_of_mem _ (List.mem_append_right _ (h))
set_option maxHeartbeats 4000000 in
set_option maxRecDepth 100000 in
theorem c_X8_hand {E : EE} {l : Launch} {g : GG} {ad : Nat → Nat} (hg : gwf g) {o0 : Nat} {x1 : Int} {x2 : Int} {M : Mm} {Q : Int → Mm → Prop} (k_o0 : gk g o0 = 8) (h : p_X8_hand g o0 x1 x2 M Q) : Ct E l yX8_hand wsX8_hand rmX8_hand g ad [.ref (ad o0), cI x1, cI x2] M (QI E g ad Q) := by
  refine ent (cc := cX8_hand) (maxL := 3) (ret := (some .int)) (own := RX8) (by decide +kernel) rfl rfl (Nat.le_of_ble_eq_true rfl) ?_
  intro p e s m below meth c ls X hr hlk K w hl
  have hl : lv_has ls 3 [(0, .ref (ad o0)), (1, cI x1), (2, cI x2)] := hl
  unfold p_X8_hand at h
  refine lv_aload_n X.1 X.2.1 dX8_hand_0 rfl (lv_at hl 0 rfl) ?_
  refine lv_iload_n X.1 X.2.1 dX8_hand_1 rfl (lv_at hl 1 rfl) ?_
  refine q_i (x_V (As := [cI x1]) (rest := []) X K w (c_X8_isHand hg k_o0 h) (cwV 1 X.2.2.2.2 gX8_hand_X8_isHand rfl rfl rfl (by decide +kernel) ⟨Nat.le_of_ble_eq_true rfl, Nat.le_of_ble_eq_true rfl⟩) k_o0 (by decide) rfl rfl hl rfl (Nat.le_of_ble_eq_true rfl) dX8_hand_2 ⟨Nat.le_of_ble_eq_true rfl, Nat.le_of_ble_eq_true rfl⟩) w (fun r2 M1 H locs h w => ?_)
  obtain ⟨i0, h1, h2⟩ := h
  refine r_if_ne (tgt := 10) X i0 dX8_hand_5 (by decide) (fun cc => ?_) (fun cc => ?_)
  · have h := h1 cc
    refine lv_aload_n X.1 X.2.1 dX8_hand_10 rfl (lv_at hl 0 rfl) ?_
    refine q_v (x_V (As := []) (rest := []) X K w (c_X8_tries hg k_o0 h) (cwV 0 X.2.2.2.2 gX8_hand_X8_tries rfl rfl rfl (by decide +kernel) ⟨Nat.le_of_ble_eq_true rfl, Nat.le_of_ble_eq_true rfl⟩) k_o0 (by decide) rfl rfl hl rfl (Nat.le_of_ble_eq_true rfl) dX8_hand_11 ⟨Nat.le_of_ble_eq_true rfl, Nat.le_of_ble_eq_true rfl⟩) w (fun M3 H locs h w => ?_)
    refine lv_iload_n X.1 X.2.1 dX8_hand_14 rfl (lv_at hl 2 rfl) ?_
    obtain ⟨i0, h⟩ := h
    obtain ⟨h1, h⟩ := h
    by_cases cs0 : x2 = 0
    · have h := h1 cs0
      refine r_tabIn (tgt := 48) X i0 dX8_hand_15 0 cs0 (by decide) (by decide) rfl (by decide) ?_
      refine lv_aload_n X.1 X.2.1 dX8_hand_48 rfl (lv_at hl 0 rfl) ?_
      refine r_getr (N := 25) (T := TX8) X K w iX8_hand_8 k_o0 rfl (by decide) 0 (by decide) rfl rfl (List.mem_of_getElem? (i := 1) rfl) dX8_hand_49 ?_
      have k4 : gk g (o0 + 1) = 9 := gch hg k_o0 (by decide) 0 (by decide) rfl rfl
      refine r_bipush X dX8_hand_52 (by decide +kernel) ?_
      refine lv_iload_n X.1 X.2.1 dX8_hand_54 rfl (lv_at hl 1 rfl) ?_
      refine r_iadd X dX8_hand_55 ?_
      obtain ⟨b0, b1, h⟩ := h
      refine r_iald X K w hg k4 b0 b1 dX8_hand_56 ?_
      exact r_ireturn X hr hlk K w h dX8_hand_57
    obtain ⟨h1, h⟩ := h
    by_cases cs1 : x2 = 1
    · have h := h1 cs1
      refine r_tabIn (tgt := 58) X i0 dX8_hand_15 1 cs1 (by decide) (by decide) rfl (by decide) ?_
      refine lv_aload_n X.1 X.2.1 dX8_hand_58 rfl (lv_at hl 0 rfl) ?_
      refine r_getr (N := 25) (T := TX8) X K w iX8_hand_8 k_o0 rfl (by decide) 12 (by decide) rfl rfl (List.mem_of_getElem? (i := 2) rfl) dX8_hand_59 ?_
      have k5 : gk g (o0 + 11) = 9 := gch hg k_o0 (by decide) 12 (by decide) rfl rfl
      refine lv_iload_n X.1 X.2.1 dX8_hand_62 rfl (lv_at hl 1 rfl) ?_
      obtain ⟨b0, b1, h⟩ := h
      refine r_iald X K w hg k5 b0 b1 dX8_hand_63 ?_
      exact r_ireturn X hr hlk K w h dX8_hand_64
    obtain ⟨h1, h⟩ := h
    by_cases cs2 : x2 = 2
    · have h := h1 cs2
      refine r_tabIn (tgt := 65) X i0 dX8_hand_15 2 cs2 (by decide) (by decide) rfl (by decide) ?_
      refine lv_aload_n X.1 X.2.1 dX8_hand_65 rfl (lv_at hl 0 rfl) ?_
      refine r_getr (N := 25) (T := TX8) X K w iX8_hand_8 k_o0 rfl (by decide) 13 (by decide) rfl rfl (List.mem_of_getElem? (i := 3) rfl) dX8_hand_66 ?_
      have k6 : gk g (o0 + 12) = 9 := gch hg k_o0 (by decide) 13 (by decide) rfl rfl
      refine lv_iload_n X.1 X.2.1 dX8_hand_69 rfl (lv_at hl 1 rfl) ?_
      obtain ⟨b0, b1, h⟩ := h
      refine r_iald X K w hg k6 b0 b1 dX8_hand_70 ?_
      exact r_ireturn X hr hlk K w h dX8_hand_71
    obtain ⟨h1, h⟩ := h
    by_cases cs3 : x2 = 3
    · have h := h1 cs3
      refine r_tabIn (tgt := 72) X i0 dX8_hand_15 3 cs3 (by decide) (by decide) rfl (by decide) ?_
      refine lv_aload_n X.1 X.2.1 dX8_hand_72 rfl (lv_at hl 0 rfl) ?_
      refine r_getr (N := 25) (T := TX8) X K w iX8_hand_8 k_o0 rfl (by decide) 11 (by decide) rfl rfl (List.mem_of_getElem? (i := 4) rfl) dX8_hand_73 ?_
      have k7 : gk g (o0 + 10) = 9 := gch hg k_o0 (by decide) 11 (by decide) rfl rfl
      refine lv_iload_n X.1 X.2.1 dX8_hand_76 rfl (lv_at hl 1 rfl) ?_
      obtain ⟨b0, b1, h⟩ := h
      refine r_iald X K w hg k7 b0 b1 dX8_hand_77 ?_
      exact r_ireturn X hr hlk K w h dX8_hand_78
    obtain ⟨h1, h⟩ := h
    by_cases cs4 : x2 = 4
    · have h := h1 cs4
      refine r_tabIn (tgt := 79) X i0 dX8_hand_15 4 cs4 (by decide) (by decide) rfl (by decide) ?_
      refine lv_aload_n X.1 X.2.1 dX8_hand_79 rfl (lv_at hl 0 rfl) ?_
      refine r_getr (N := 25) (T := TX8) X K w iX8_hand_8 k_o0 rfl (by decide) 18 (by decide) rfl rfl (List.mem_of_getElem? (i := 5) rfl) dX8_hand_80 ?_
      have k8 : gk g (o0 + 15) = 9 := gch hg k_o0 (by decide) 18 (by decide) rfl rfl
      refine lv_iload_n X.1 X.2.1 dX8_hand_83 rfl (lv_at hl 1 rfl) ?_
      obtain ⟨b0, b1, h⟩ := h
      refine r_iald X K w hg k8 b0 b1 dX8_hand_84 ?_
      exact r_ireturn X hr hlk K w h dX8_hand_85
    have co : x2 < 0 ∨ 4 < x2 := by omega
    replace h := h co
    refine r_tabOut (tgt := 86) X i0 dX8_hand_15 co (by decide) ?_
    refine r_bipush X dX8_hand_86 (by decide +kernel) ?_
    exact r_ireturn X hr hlk K w h dX8_hand_88
  · have h := h2 cc
    refine r_iconst X dX8_hand_8 ?_
    exact r_ireturn X hr hlk K w h dX8_hand_9
